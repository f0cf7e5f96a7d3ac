/-! THE BUNDLE: what every method finds in the tables and in cells that nobody writes (below N0); the one shape of contracts; their calls and ends. My own rows. -/
abbrev KA (N0 : Nat) : Nat → Prop := fun q => N0 ≤ q
def K_S : List (Nat × String) := [(362, "no such number"), (365, "not allowed"), (369, "not for these"), (384, "there are none")]
def K_nf : List (String × Nat × String × String × String × String) := [("java/util/ArrayList$Itr", 28, "java/util/ArrayList", "size", "I", "java/util/ArrayList"), ("RunwayLoomModel$Day", 119, "RunwayLoomModel", "fleet", "Ljava/util/List;", "RunwayLoomModel"), ("RunwayLoomModel$Day", 142, "RunwayLoomModel", "crews", "Ljava/util/List;", "RunwayLoomModel"), ("RunwayLoomModel$Day", 294, "RunwayLoomModel", "stands", "Ljava/util/List;", "RunwayLoomModel"), ("RunwayLoomModel$Day", 413, "RunwayLoomModel", "iceFrom", "I", "RunwayLoomModel"), ("RunwayLoomModel$Day", 416, "RunwayLoomModel", "iceTo", "I", "RunwayLoomModel"), ("RunwayLoomModel$Day", 431, "RunwayLoomModel", "pads", "I", "RunwayLoomModel"), ("RunwayLoomModel$Day", 76, "RunwayLoomModel", "flights", "Ljava/util/List;", "RunwayLoomModel"), ("RunwayLoomModel$Day", 106, "RunwayLoomModel", "groups", "Ljava/util/List;", "RunwayLoomModel"), ("RunwayLoomModel$Day", 218, "RunwayLoomModel", "messages", "Ljava/util/List;", "RunwayLoomModel"), ("RunwayLoomModel", 142, "RunwayLoomModel$Aircraft", "family", "I", "RunwayLoomModel"), ("RunwayLoomModel$Day", 132, "RunwayLoomModel$Aircraft", "airport", "I", "RunwayLoomModel"), ("RunwayLoomModel$Day", 135, "RunwayLoomModel$Aircraft", "minutes", "I", "RunwayLoomModel"), ("RunwayLoomModel$Day", 138, "RunwayLoomModel$Aircraft", "landings", "I", "RunwayLoomModel"), ("RunwayLoomModel$Day", 140, "RunwayLoomModel$Aircraft", "bans", "I", "RunwayLoomModel"), ("RunwayLoomModel", 94, "RunwayLoomModel$Aircraft", "bans", "I", "RunwayLoomModel"), ("RunwayLoomModel$Day", 147, "RunwayLoomModel$Crew", "airport", "I", "RunwayLoomModel"), ("RunwayLoomModel$Day", 191, "RunwayLoomModel$Flight", "number", "I", "RunwayLoomModel"), ("RunwayLoomModel", 275, "RunwayLoomModel$Flight", "number", "I", "RunwayLoomModel"), ("RunwayLoomModel$Day", 212, "RunwayLoomModel$Flight", "from", "I", "RunwayLoomModel"), ("RunwayLoomModel", 123, "RunwayLoomModel$Flight", "from", "I", "RunwayLoomModel"), ("RunwayLoomModel$Day", 215, "RunwayLoomModel$Flight", "to", "I", "RunwayLoomModel"), ("RunwayLoomModel", 169, "RunwayLoomModel$Flight", "to", "I", "RunwayLoomModel"), ("RunwayLoomModel$Day", 268, "RunwayLoomModel$Flight", "crew", "I", "RunwayLoomModel"), ("RunwayLoomModel$Day", 233, "RunwayLoomModel$Flight", "aircraft", "I", "RunwayLoomModel"), ("RunwayLoomModel", 139, "RunwayLoomModel$Flight", "aircraft", "I", "RunwayLoomModel"), ("RunwayLoomModel", 131, "RunwayLoomModel$Flight", "hold", "I", "RunwayLoomModel"), ("RunwayLoomModel", 136, "RunwayLoomModel$Flight", "wait", "I", "RunwayLoomModel"), ("RunwayLoomModel", 126, "RunwayLoomModel$Flight", "slot", "I", "RunwayLoomModel"), ("RunwayLoomModel$Day", 152, "RunwayLoomModel$Flight", "isCancelled", "Z", "RunwayLoomModel"), ("RunwayLoomModel", 163, "RunwayLoomModel$Flight", "isCancelled", "Z", "RunwayLoomModel"), ("RunwayLoomModel$Day", 382, "RunwayLoomModel$Group", "people", "I", "RunwayLoomModel"), ("RunwayLoomModel", 315, "RunwayLoomModel$Group", "people", "I", "RunwayLoomModel"), ("RunwayLoomModel$Day", 370, "RunwayLoomModel$Group", "rank", "I", "RunwayLoomModel"), ("RunwayLoomModel$Day", 148, "RunwayLoomModel$Course", "flight", "LRunwayLoomModel$Flight;", "RunwayLoomModel"), ("RunwayLoomModel", 307, "RunwayLoomModel$Course", "flight", "LRunwayLoomModel$Flight;", "RunwayLoomModel"), ("RunwayLoomModel$Day", 194, "RunwayLoomModel$Course", "state", "C", "RunwayLoomModel"), ("RunwayLoomModel", 190, "RunwayLoomModel$Course", "state", "C", "RunwayLoomModel"), ("RunwayLoomModel$Day", 230, "RunwayLoomModel$Course", "hold", "I", "RunwayLoomModel"), ("RunwayLoomModel", 202, "RunwayLoomModel$Course", "doors", "I", "RunwayLoomModel"), ("RunwayLoomModel", 205, "RunwayLoomModel$Course", "pad", "I", "RunwayLoomModel"), ("RunwayLoomModel$Day", 434, "RunwayLoomModel$Course", "pad", "I", "RunwayLoomModel"), ("RunwayLoomModel$Day", 271, "RunwayLoomModel$Course", "takeOff", "I", "RunwayLoomModel"), ("RunwayLoomModel", 208, "RunwayLoomModel$Course", "takeOff", "I", "RunwayLoomModel"), ("RunwayLoomModel$Day", 288, "RunwayLoomModel$Course", "landing", "I", "RunwayLoomModel"), ("RunwayLoomModel", 211, "RunwayLoomModel$Course", "landing", "I", "RunwayLoomModel"), ("RunwayLoomModel", 214, "RunwayLoomModel$Course", "end", "I", "RunwayLoomModel"), ("RunwayLoomModel$Day", 300, "RunwayLoomModel$Course", "stand", "I", "RunwayLoomModel"), ("RunwayLoomModel", 217, "RunwayLoomModel$Course", "stand", "I", "RunwayLoomModel"), ("RunwayLoomModel$Day", 398, "RunwayLoomModel$Course", "ready", "I", "RunwayLoomModel"), ("RunwayLoomModel$Day", 201, "RunwayLoomModel$Course", "cancelledAt", "I", "RunwayLoomModel"), ("RunwayLoomModel$Day", 366, "RunwayLoomModel$Journey", "group", "LRunwayLoomModel$Group;", "RunwayLoomModel"), ("RunwayLoomModel", 311, "RunwayLoomModel$Journey", "group", "LRunwayLoomModel$Group;", "RunwayLoomModel"), ("RunwayLoomModel$Day", 354, "RunwayLoomModel$Journey", "next", "I", "RunwayLoomModel"), ("RunwayLoomModel$Day", 348, "RunwayLoomModel$Journey", "taken", "I", "RunwayLoomModel"), ("RunwayLoomModel", 242, "RunwayLoomModel$Journey", "taken", "I", "RunwayLoomModel"), ("RunwayLoomModel$Day", 395, "RunwayLoomModel$Journey", "missed", "I", "RunwayLoomModel"), ("RunwayLoomModel$Day", 401, "RunwayLoomModel$Journey", "isLast", "Z", "RunwayLoomModel"), ("RunwayLoomModel$Day", 456, "RunwayLoomModel$Journey", "isStranded", "Z", "RunwayLoomModel"), ("RunwayLoomModel", 245, "RunwayLoomModel$Journey", "isStranded", "Z", "RunwayLoomModel"), ("RunwayLoomModel", 185, "RunwayLoomModel$Day", "courses", "Ljava/util/List;", "RunwayLoomModel"), ("RunwayLoomModel", 233, "RunwayLoomModel$Day", "journeys", "Ljava/util/List;", "RunwayLoomModel"), ("RunwayLoomModel", 248, "RunwayLoomModel$Day", "lateBags", "I", "RunwayLoomModel"), ("RunwayLoomModel", 251, "RunwayLoomModel$Day", "missedSlots", "I", "RunwayLoomModel"), ("RunwayLoomModel", 260, "RunwayLoomModel$Day", "log", "Ljava/lang/StringBuilder;", "RunwayLoomModel")]
def K_nm : List (String × Nat × MethodName × String) := [("RunwayLoomModel", 223, yX15_cause, "RunwayLoomModel"), ("RunwayLoomModel", 227, yX15_root, "RunwayLoomModel"), ("RunwayLoomModel", 238, yX15_lateness, "RunwayLoomModel"), ("RunwayLoomModel", 254, yX15_harm, "RunwayLoomModel"), ("RunwayLoomModel", 257, yX15_paid, "RunwayLoomModel")]
def K_ca : List (String × String) := [("java/lang/IndexOutOfBoundsException", "java/lang/IndexOutOfBoundsException"), ("java/lang/IllegalArgumentException", "java/lang/IllegalArgumentException"), ("java/lang/UnsupportedOperationException", "java/lang/UnsupportedOperationException"), ("java/lang/ArithmeticException", "java/lang/ArithmeticException"), ("java/lang/Integer", "java/lang/Object"), ("RunwayLoomModel$Aircraft", "java/lang/Object"), ("RunwayLoomModel$Crew", "java/lang/Object"), ("[I", "java/lang/Object")]
def K_if : List (String × MethodName × MethodName) := [("java/util/ArrayList", ⟨"java/util/List", "size", "()I"⟩, yJx4a65c_size_8abf5), ("java/util/ArrayList", ⟨"java/util/List", "add", "(Ljava/lang/Object;)Z"⟩, yJx4a65c_add_9ea2d), ("java/util/ArrayList", ⟨"java/util/List", "iterator", "()Ljava/util/Iterator;"⟩, yJx4a65c_iterator_32c93), ("java/util/ArrayList$Itr", ⟨"java/util/Iterator", "hasNext", "()Z"⟩, yJx35411_hasNext_aae02), ("java/util/ArrayList", ⟨"java/util/List", "clear", "()V"⟩, yJx4a65c_clear_da8c8), ("java/util/ArrayList", ⟨"java/util/List", "isEmpty", "()Z"⟩, yJx4a65c_isEmpty_aae02)]
def K_de : List MethodName := [⟨"java/lang/RuntimeException", "<init>", "(Ljava/lang/String;)V"⟩, ⟨"java/lang/Exception", "<init>", "(Ljava/lang/String;)V"⟩, ⟨"java/lang/Throwable", "<init>", "(Ljava/lang/String;)V"⟩]
def K_ao : List String := ["RunwayLoom$Aircraft", "RunwayLoom$Crew", "RunwayLoom$Flight", "RunwayLoom$Group", "RunwayLoom$Message", "RunwayLoom$Course", "RunwayLoom$Carrier", "RunwayLoom$Journey", "java/lang/Object"]
def K_nc : List (String × String) := [("java/lang/IllegalArgumentException", "java/lang/IndexOutOfBoundsException"), ("java/lang/UnsupportedOperationException", "java/lang/IndexOutOfBoundsException"), ("java/lang/IllegalArgumentException", "java/lang/UnsupportedOperationException"), ("java/lang/UnsupportedOperationException", "java/lang/IllegalArgumentException")]
theorem K_if_ok : ∀ q ∈ K_if, q.2.1.cls ≠ "java/lang/invoke/MethodHandle" ∧ q.2.1.cls ≠ "java/lang/invoke/VarHandle" := by decide +kernel
def BT (N0 ade : Nat) (adB : Nat → Nat) (U : State) : Prop :=
  (vx_Zq Bundle.tN "UNASSIGNED_STACK" Bundle.steD (KA N0) U U.heap ∧ vx_Zq Bundle.tN "SUPPRESSED_SENTINEL" Bundle.listD (KA N0) U U.heap) ∧
  (∀ q ∈ K_S, ∃ sa, vk_R RX11 q.1 q.2 sa U) ∧
  (va_Z RJx4a65c "DEFAULTCAPACITY_EMPTY_ELEMENTDATA" "[Ljava/lang/Object;" (.ref ade) (KA N0) U U.heap ∧ ∃ f : Nat → Value, va_T (.object "java/lang/Object") ade 0 f (KA N0) U U.heap) ∧
  va_Z RJ0 "COMPACT_STRINGS" "Z" (.int 1) (KA N0) U U.heap ∧
  (va_Z RJxabbfe "high" "I" (.int 127) (KA N0) U U.heap ∧ (∃ ca : Nat, va_Z RJxabbfe "cache" "[Ljava/lang/Integer;" (.ref ca) (KA N0) U U.heap ∧ va_T (.object "java/lang/Integer") ca 256 (fun k => .ref (adB k)) (KA N0) U U.heap) ∧ vb_C adB (KA N0) U U.heap) ∧
  (∀ q ∈ K_nf, va_Nw (.fieldLinkNest q.1 q.2.1 q.2.2.1 q.2.2.2.1 q.2.2.2.2.1 q.2.2.2.2.2) U) ∧
  (∀ q ∈ K_nm, va_Nw (.methodLinkNest q.1 q.2.1 q.2.2.1 q.2.2.2) U) ∧
  (∀ q ∈ K_ca, va_Nw (.castable q.1 q.2) U) ∧
  (∀ q ∈ K_if, va_Fw q.1 q.2.1 q.2.2 U) ∧
  (∀ q ∈ K_ao, va_AO q U) ∧ va_AOA .int U ∧
  (∀ q ∈ K_nc, va_Nc q.1 q.2 U) ∧
  (∀ q ∈ K_de, va_Nw (.declares q) U)
theorem BT.go {N0 ade : Nat} {adB : Nat → Nat} {u U : State} (h : BT N0 ade adB u) (hW : u.WarmedH U.vm) (hH : ∀ q : Nat, q < u.heap.size → ¬ KA N0 q → U.heap[q]? = u.heap[q]?) : BT N0 ade adB U := by
  obtain ⟨⟨h1, h2⟩, h3, ⟨h4, f, h5⟩, h6, ⟨h7, ⟨ca, h8, h9⟩, h10⟩, h11, h12, h13, h14, h15, h16, h17, h18⟩ := h
  have hv := hW.alike
  exact ⟨⟨(vx_Zq.moved hv h1).kept hH, (vx_Zq.moved hv h2).kept hH⟩, fun q hq => (h3 q hq).imp fun _ h => vk_R.warm hW h, ⟨(va_Z.moved hv h4).kept hH, f, (va_T.moved hv h5).kept hH⟩, (va_Z.moved hv h6).kept hH,
    ⟨(va_Z.moved hv h7).kept hH, ⟨ca, (va_Z.moved hv h8).kept hH, (va_T.moved hv h9).kept hH⟩, (vb_C.moved hv h10).kept hH⟩,
    fun q hq => va_Nw.warmF hW (h11 q hq), fun q hq => va_Nw.warmM hW (h12 q hq), fun q hq => va_Nw.warmC hW (h13 q hq), fun q hq => va_Fw.moved (K_if_ok q hq) hv (h14 q hq), fun q hq => va_AO.moved hv (h15 q hq), va_AOA.moved hv h16, fun q hq => va_Nc.moved hv (h17 q hq), fun q hq => va_Nw.warmD hW (h18 q hq)⟩
theorem BT.nf {N0 ade : Nat} {adB : Nat → Nat} {U : State} (h : BT N0 ade adB U) {a : String} {i : Nat} {b n d t : String} (hm : (a, i, b, n, d, t) ∈ K_nf) {A : Array Value} : (Cond.fieldLinkNest a i b n d t).before A U = true := va_Nw.use rfl (h.2.2.2.2.2.1 _ hm)
theorem BT.nm {N0 ade : Nat} {adB : Nat → Nat} {U : State} (h : BT N0 ade adB U) {a : String} {i : Nat} {y : MethodName} {t : String} (hm : (a, i, y, t) ∈ K_nm) : va_Nw (.methodLinkNest a i y t) U := h.2.2.2.2.2.2.1 _ hm
theorem BT.ca {N0 ade : Nat} {adB : Nat → Nat} {U : State} (h : BT N0 ade adB U) {a b : String} (hm : (a, b) ∈ K_ca) : va_Nw (.castable a b) U := h.2.2.2.2.2.2.2.1 _ hm
theorem BT.fw {N0 ade : Nat} {adB : Nat → Nat} {U : State} (h : BT N0 ade adB U) {a : String} {x y : MethodName} (hm : (a, x, y) ∈ K_if) : va_Fw a x y U := h.2.2.2.2.2.2.2.2.1 _ hm
theorem BT.ao {N0 ade : Nat} {adB : Nat → Nat} {U : State} (h : BT N0 ade adB U) {a : String} (hm : a ∈ K_ao) : va_AO a U := h.2.2.2.2.2.2.2.2.2.1 _ hm
theorem BT.aoa {N0 ade : Nat} {adB : Nat → Nat} {U : State} (h : BT N0 ade adB U) : va_AOA .int U := h.2.2.2.2.2.2.2.2.2.2.1
theorem BT.nc {N0 ade : Nat} {adB : Nat → Nat} {U : State} (h : BT N0 ade adB U) {a b : String} (hm : (a, b) ∈ K_nc) : va_Nc a b U := h.2.2.2.2.2.2.2.2.2.2.2.1 _ hm
theorem BT.de {N0 ade : Nat} {adB : Nat → Nat} {U : State} (h : BT N0 ade adB U) {y : MethodName} (hm : y ∈ K_de) : va_Nw (.declares y) U := h.2.2.2.2.2.2.2.2.2.2.2.2 _ hm
theorem BT.thr {N0 ade : Nat} {adB : Nat → Nat} {U : State} (h : BT N0 ade adB U) {x : String} (hm : (x, x) ∈ K_ca) {A : Array Value} : ∀ w ∈ (Cond.castable x x :: K_de.map Cond.declares), w.before A U = true := by
  intro w hw
  rcases List.mem_cons.mp hw with rfl | hw
  · exact va_Nw.use rfl (h.ca hm)
  · obtain ⟨y, hy, rfl⟩ := List.mem_map.mp hw
    exact va_Nw.use rfl (h.de hy)
theorem BT.str {N0 ade : Nat} {adB : Nat → Nat} {U : State} (h : BT N0 ade adB U) {k : Nat} {x : String} (hm : (k, x) ∈ K_S) : ∃ sa, vk_R RX11 k x sa U := h.2.1 _ hm
theorem vin {i : Int32} {n : Nat} (h : (decide (i < 0) || decide (n ≤ i.toNatClampNeg)) = false) : vp_in i n := by
  rw [Bool.or_eq_false_iff, decide_eq_false_iff_not, decide_eq_false_iff_not] at h
  exact fun q => q.elim h.1 h.2
/-- a world's part, by places -/
theorem kfm {α : Type} {ws w : List α} {is : List Nat} (h : is.map (fun i => ws[i]?) = w.map some) : is.filterMap (fun i => ws[i]?) = w := by
  have e : is.filterMap (fun i => ws[i]?) = (is.map (fun i => ws[i]?)).filterMap id := by
    rw [List.filterMap_map]; rfl
  rw [e, h, List.filterMap_map]
  simp
def KPre (N0 ade : Nat) (adB : Nat → Nat) (G : va_G) (tys : List (ClassId × FieldType)) (wc : va_W) (sz : Nat) (U : State) : Prop := U.heap.size = sz ∧ va_P G vwCl wc U.heap ∧ va_K G vwCl tys U ∧ va_D (KA N0) wc ∧ N0 ≤ sz ∧ BT N0 ade adB U
def KB {S : Type} (G : va_G) (w1 : S → va_W) (t1 : S → List (ClassId × FieldType)) (A : Nat → Prop) : S → State → Prop := fun u t => va_P G vwCl (w1 u) t.heap ∧ va_K G vwCl (t1 u) t ∧ va_D A (w1 u)
def KX (px : String → Prop) (A : Nat → Prop) : String → State → State → Prop := vx_X px (fun E (u : String) (_ : State) => E = u) A
theorem KPre.blind {N0 ade : Nat} {adB : Nat → Nat} {G : va_G} {tys : List (ClassId × FieldType)} {wc : va_W} {sz : Nat} {av : List Value} : FrameBlind (va_Pc av (KPre N0 ade adB G tys wc sz)) := by
  intro a U g mk q
  obtain ⟨q0, q1, q2, q3, q4, q5, q6⟩ := q
  exact ⟨q0, q1, q2, va_K.moved (u := U) (U := U.calling g mk a) (Vm.Alike.refl U.vm) q3, q4, q5, BT.go q6 (State.WarmedH.refl U) (fun _ _ _ => rfl)⟩
theorem KAin {N0 sz : Nat} {wc : va_W} (hD : va_D (KA N0) wc) (hN : N0 ≤ sz) : ∀ q, va_A wc sz q → KA N0 q := by
  intro q h
  rcases h with ⟨k, e, h⟩ | h
  · exact hD.2 k _ h
  · exact Nat.le_trans hN h
section KBODY
variable {l : Launch} {y : MethodName} {rm : Room} {cc : ByteArray} {maxL : Nat} {ret : Option FieldType} {av : List Value} {lv : List (Nat × Value)} {N0 ade sz mc ms : Nat} {adB : Nat → Nat} {G : va_G} {tys : List (ClassId × FieldType)} {wc : va_W}
theorem K_ofW {Qc : (Nat → Prop) → Array Value → State → Outcome → State → Prop} (hy : plainName y.cls = true) (hlen : (lg_sl av).length ≤ maxL) (hlv : lv_args 0 av = lv)
    (body : ∀ (p : Program) (e : Env) (s : State) (m : MethodId) (args : Array Value) (below : List Frame) (meth : Method) (c : Code), p.tables.exec = Jvm.exec → c.code = cc → meth.sig.returnType = ret → c.maxLocals = maxL → s.vm.findClass y.cls = some m.cls → meth.locks = false → meth.name = y.name → (∀ w ∈ lw_all, w.before args s = true) → ∀ A : Nat → Prop, (∀ q, A q → KA N0 q) → (∀ q : Nat, s.heap.size ≤ q → A q) → ∀ H : Heap, H = s.heap → va_P G vwCl wc H → va_D A wc → va_K G vwCl tys s → BT N0 ade adB s → N0 ≤ s.heap.size → va_S A s.heap H [] →
      ∀ ls : Array Slot, lv_has ls maxL lv → W p l e rm s m args below meth c H [] 0 0 (MQ below (Qc A) args s mc ms A) (F0 m 0 ls [])) :
    Met l y (Cond.code y cc maxL ret :: lw_all) rm (va_Pc av (KPre N0 ade adB G tys wc sz)) (Qc (va_A wc sz)) mc ms (va_A wc sz) := by
  refine Met.ofW (cc := cc) (maxL := maxL) (ret := ret) hy rfl ?_
  intro p e s m args below meth c s₁ B hml hv
  obtain ⟨rfl, hsz, hP, hK, hD0, hN, hT⟩ := hv
  subst hsz
  have hts := atoms_spec (ws := Cond.code y cc maxL ret :: lw_all) B.pre
  have hl := lv_entry av (n := maxL) hlen
  rw [lg_entry_eq]
  rw [hlv] at hl
  exact body p e s m _ below meth c B.exec B.bytes B.returns hml (findClass_of_methodNamed B.named) B.notSynchronized (name_of_methodNamed B.named B.method).1 (fun w h => hts w (List.mem_cons_of_mem _ h)) _ (KAin hD0 hN) (fun q h => Or.inr h) _ rfl hP hD0.self hK hT hN va_S.rf _ hl
theorem K_ofX {Qc : (Nat → Prop) → Array Value → State → Outcome → State → Prop} {px : String → Prop} (hy : plainName y.cls = true) (hlen : (lg_sl av).length ≤ maxL) (hlv : lv_args 0 av = lv)
    (body : ∀ (p : Program) (e : Env) (s : State) (m : MethodId) (args : Array Value) (below : List Frame) (meth : Method) (c : Code), p.tables.exec = Jvm.exec → c.code = cc → meth.sig.returnType = ret → c.maxLocals = maxL → s.vm.findClass y.cls = some m.cls → meth.locks = false → meth.name = y.name → (∀ w ∈ lw_all, w.before args s = true) → (∀ x ∈ c.exceptionTable.toList, False) → ∀ A : Nat → Prop, (∀ q, A q → KA N0 q) → (∀ q : Nat, s.heap.size ≤ q → A q) → ∀ H : Heap, H = s.heap → va_P G vwCl wc H → va_D A wc → va_K G vwCl tys s → BT N0 ade adB s → N0 ≤ s.heap.size → va_S A s.heap H [] →
      ∀ ls : Array Slot, lv_has ls maxL lv → W p l e rm s m args below meth c H [] 0 0 (vx_MQ below (Qc A) (KX px A) args s mc ms A) (F0 m 0 ls [])) :
    vx_Met l y (Cond.code y cc maxL ret :: lw_all) rm (va_Pc av (KPre N0 ade adB G tys wc sz)) (Qc (va_A wc sz)) (KX px (va_A wc sz)) mc ms (va_A wc sz) := by
  refine vx_ofW (cc := cc) (maxL := maxL) (ret := ret) hy rfl ?_
  intro p e s m args below meth c s₁ B hml hno hv
  obtain ⟨rfl, hsz, hP, hK, hD0, hN, hT⟩ := hv
  subst hsz
  have hts := atoms_spec (ws := Cond.code y cc maxL ret :: lw_all) B.pre
  have hl := lv_entry av (n := maxL) hlen
  rw [lg_entry_eq]
  rw [hlv] at hl
  exact body p e s m _ below meth c B.exec B.bytes B.returns hml (findClass_of_methodNamed B.named) B.notSynchronized (name_of_methodNamed B.named B.method).1 (fun w h => hts w (List.mem_cons_of_mem _ h)) hno _ (KAin hD0 hN) (fun q h => Or.inr h) _ rfl hP hD0.self hK hT hN va_S.rf _ hl
theorem K_ofH {Qc : (Nat → Prop) → Array Value → State → Outcome → State → Prop} {hh : List (Nat × Nat × Nat × Nat)} (hy : plainName y.cls = true) (hlen : (lg_sl av).length ≤ maxL) (hlv : lv_args 0 av = lv)
    (body : ∀ (p : Program) (e : Env) (s : State) (m : MethodId) (args : Array Value) (below : List Frame) (meth : Method) (c : Code), p.tables.exec = Jvm.exec → c.code = cc → meth.sig.returnType = ret → c.maxLocals = maxL → s.vm.findClass y.cls = some m.cls → meth.locks = false → meth.name = y.name → (∀ w ∈ lw_all, w.before args s = true) → c.exceptionTable.toList = tableOf hh → ∀ A : Nat → Prop, (∀ q, A q → KA N0 q) → (∀ q : Nat, s.heap.size ≤ q → A q) → ∀ H : Heap, H = s.heap → va_P G vwCl wc H → va_D A wc → va_K G vwCl tys s → BT N0 ade adB s → N0 ≤ s.heap.size → va_S A s.heap H [] →
      ∀ ls : Array Slot, lv_has ls maxL lv → W p l e rm s m args below meth c H [] 0 0 (MQ below (Qc A) args s mc ms A) (F0 m 0 ls [])) :
    Met l y (Cond.codeWith y cc maxL ret hh :: lw_all) rm (va_Pc av (KPre N0 ade adB G tys wc sz)) (Qc (va_A wc sz)) mc ms (va_A wc sz) := by
  refine va_MetW (cc := cc) (maxL := maxL) (ret := ret) (hh := hh) hy rfl ?_
  intro p e s m args below meth c s₁ B hml hv
  obtain ⟨rfl, hsz, hP, hK, hD0, hN, hT⟩ := hv
  subst hsz
  have hts := atoms_spec (ws := Cond.codeWith y cc maxL ret hh :: lw_all) B.pre
  have hl := lv_entry av (n := maxL) hlen
  rw [lg_entry_eq]
  rw [hlv] at hl
  exact body p e s m _ below meth c B.exec B.bytes B.returns hml (findClass_of_methodNamed B.named) B.notSynchronized (name_of_methodNamed B.named B.method).1 (fun w h => hts w (List.mem_cons_of_mem _ h)) (vx_table (x := y) B (hts _ List.mem_cons_self)) _ (KAin hD0 hN) (fun q h => Or.inr h) _ rfl hP hD0.self hK hT hN va_S.rf _ hl
end KBODY
section KCALL
variable {p : Program} {l : Launch} {e : Env} {R : Room} {s : State} {m : MethodId} {args : Array Value} {below : List Frame} {meth : Method} {c : Code} {H : Heap} {locs : List Loc} {cells slots : Nat} {Q : State → Prop}
variable {y : MethodName} {bytes cc : ByteArray} {maxL nL mc ms n index : Nat} {ret : Option FieldType} {rm : Room} {Qc : Array Value → State → Outcome → State → Prop} {free : Addr → Prop} {own C : String} {b : Addr} {As rest st0 : List Value} {pc : Nat} {ls : Array Slot} {a : Array Value}
variable {N0 ade : Nat} {adB : Nat → Nat} {G : va_G} {tysc tys tr : List (ClassId × FieldType)} {wc ws wr : va_W} {A : Nat → Prop} {av : List Value} {H0 : Heap} {XC : String → State → State → Prop}
/-- the callee's start, out of the caller's world -/
theorem kpre (hP : va_P G vwCl ws H) (hD : va_D A ws) (hK : va_K G vwCl tys s) (hAN : ∀ q, A q → KA N0 q) (hT : BT N0 ade adB s) (hN : N0 ≤ s.heap.size) (hS : va_S A s.heap H locs) (isC tC : List Nat) (hn : va_nd isC = true) (hC : isC.map (fun i => ws[i]?) = wc.map some) (htC : tC.filterMap (fun i => tys[i]?) = tysc) :
    ∀ U : State, U.heap = H → s.WarmedH U.vm → va_Pc av (KPre N0 ade adB G tysc wc H.size) av.toArray U := by
  intro U hU hW
  refine ⟨rfl, by rw [hU], by rw [hU]; exact hP.sub isC (kfm hC), va_K.moved hW.alike (hK.sub tC htC), (hD.sub isC hn hC).weaken (fun _ q _ h => hAN q.1 h), Nat.le_trans hN hS.1, BT.go hT hW (fun q hq hn => ?_)⟩
  rw [hU]
  exact hS.2.1 q hq (fun h => hn (hAN q h))
theorem kpreS (hP : va_P G vwCl ws H) (hD : va_D A ws) (hK : va_K G vwCl tys s) (hAN : ∀ q, A q → KA N0 q) (hT : BT N0 ade adB s) (hN : N0 ≤ s.heap.size) (hS : va_S A s.heap H locs) (isC tC : List Nat) (hn : va_nd isC = true) (hC : isC.map (fun i => ws[i]?) = wc.map some) (htC : tC.filterMap (fun i => tys[i]?) = tysc) :
    PreS s H (va_Pc av (KPre N0 ade adB G tysc wc H.size)) av := ⟨KPre.blind, kpre hP hD hK hAN hT hN hS isC tC hn hC htC⟩
theorem kpreV {ci q0 : Nat} {r : vw_C} {fs : List Value} (hP : va_P G vwCl ws H) (hD : va_D A ws) (hK : va_K G vwCl tys s) (hAN : ∀ q, A q → KA N0 q) (hT : BT N0 ade adB s) (hN : N0 ≤ s.heap.size) (hS : va_S A s.heap H locs) (isC tC : List Nat) (hn : va_nd isC = true) (hC : isC.map (fun i => ws[i]?) = wc.map some) (htC : tC.filterMap (fun i => tys[i]?) = tysc) (hc : vwCl[ci]? = some r) (hr : r.1 = C) (he : ws[q0]? = some (b, .inr (ci, fs))) :
    PreV s H C b (va_Pc (.ref b :: As) (KPre N0 ade adB G tysc wc H.size)) As := ⟨KPre.blind, by rw [← hr]; exact va_recv hK hP hc he, kpre hP hD hK hAN hT hN hS isC tC hn hC htC⟩
theorem kgV {C : String} (h1 : Cond.methodLink own index y ∈ lw_all) (h2 : Cond.instanceMethod y ∈ lw_all) (h3 : Cond.selects C y y ∈ lw_all) (h4 : Cond.initialized C ∈ lw_all) (h5 : Cond.code y bytes maxL ret ∈ lw_all) : GoodIn lw_all (wsV own index C y (Cond.code y bytes maxL ret :: lw_all)) := by
  intro w hw
  simp only [wsV, List.cons_append, List.nil_append, List.mem_cons] at hw
  rcases hw with rfl | rfl | rfl | rfl | rfl | hw
  · exact lw_good _ h1
  · exact lw_good _ h2
  · exact lw_good _ h3
  · exact lw_good _ h4
  · exact lw_good _ h5
  · exact lw_good _ hw
theorem kgC {w0 : Cond} (h5 : w0 ∈ lw_all) : GoodIn lw_all (w0 :: lw_all) := by
  intro w hw
  rcases List.mem_cons.mp hw with rfl | hw
  · exact lw_good _ h5
  · exact lw_good _ hw
theorem kgS {w0 : Cond} (h1 : Cond.methodLink own index y ∈ lw_all) (h2 : Cond.static y ∈ lw_all) (h4 : Cond.initialized y.cls ∈ lw_all) (h5 : w0 ∈ lw_all) : GoodIn lw_all (va_wsS own index y (w0 :: lw_all)) := by
  intro w hw
  simp only [va_wsS, List.cons_append, List.nil_append, List.mem_cons] at hw
  rcases hw with rfl | rfl | rfl | rfl | hw
  · exact lw_good _ h1
  · exact lw_good _ h2
  · exact lw_good _ h4
  · exact lw_good _ h5
  · exact lw_good _ hw
theorem kgF {x : MethodName} (h1 : Cond.methodLink own index x ∈ lw_all) (h2 : Cond.selects C x y ∈ lw_all) (h3 : Cond.instanceMethod y ∈ lw_all) (h4 : Cond.initialized y.cls ∈ lw_all) (h5 : Cond.code y bytes maxL ret ∈ lw_all) : GoodIn lw_all (va_wsF own index C x y (Cond.code y bytes maxL ret :: lw_all)) := by
  intro w hw
  simp only [va_wsF, List.cons_append, List.nil_append, List.mem_cons] at hw
  rcases hw with rfl | rfl | rfl | rfl | rfl | hw
  · exact lw_good _ h1
  · exact lw_good _ h2
  · exact lw_good _ h3
  · exact lw_good _ h4
  · exact lw_good _ h5
  · exact lw_good _ hw
/-- behind a call: the world is what stayed, and what came back -/
theorem kback {S : Type} {w1 : S → va_W} {t1 : S → List (ClassId × FieldType)} (hP : va_P G vwCl ws H) (hD : va_D A ws) (hK : va_K G vwCl tys s) (hS : va_S A H0 H locs) (hA : ∀ q : Nat, H0.size ≤ q → A q) (isC isR tR : List Nat) (hC : isC.map (fun i => ws[i]?) = wc.map some) (hR : isR.map (fun i => ws[i]?) = wr.map some) (hn : va_nd isR = true) (hdis : ∀ i ∈ isR, i ∉ isC) (htR : tR.filterMap (fun i => tys[i]?) = tr)
    {u : S} {t : State} {H1 : Heap} (ht : t.heap = H1) (hvm : s.vm.Alike t.vm) (hB : KB G w1 t1 (va_A wc H.size) u t) (hk1 : ∀ q : Nat, q < H.size → ¬ va_A wc H.size q → H1[q]? = H[q]?) : va_P G vwCl (wr ++ w1 u) H1 ∧ va_D A (wr ++ w1 u) ∧ va_K G vwCl (tr ++ t1 u) s := by
  obtain ⟨hP1, hK1, hD1⟩ := hB
  rw [ht] at hP1
  have hj := va_join hP hD isC isR hC hR hn hdis hk1 (va_free hD hS hA isC hC) hP1 hD1
  exact ⟨hj.1, hj.2, (hK.sub tR htR).app (va_K.moved hvm.symm hK1)⟩
theorem ka_i {S : Type} {post : Int32 → S → Prop} {w1 : S → va_W} {t1 : S → List (ClassId × FieldType)} (hr : va_Run p l e R s m args below meth c H locs cells slots mc ms (F0 m pc ls st0) rest (va_Qi post (KB G w1 t1 (va_A wc H.size)) (va_A wc H.size) a) (va_A wc H.size))
    (hP : va_P G vwCl ws H) (hD : va_D A ws) (hK : va_K G vwCl tys s) (hS : va_S A H0 H locs) (hA : ∀ q : Nat, H0.size ≤ q → A q) (isC isR tR : List Nat) (hC : isC.map (fun i => ws[i]?) = wc.map some) (hR : isR.map (fun i => ws[i]?) = wr.map some) (hn : va_nd isR = true) (hdis : ∀ i ∈ isR, i ∉ isC) (htR : tR.filterMap (fun i => tys[i]?) = tr)
    (kk : ∀ (r : Int32) (u : S) (H1 : Heap) (locs1 : List Loc), post r u → va_P G vwCl (wr ++ w1 u) H1 → va_D A (wr ++ w1 u) → va_K G vwCl (tr ++ t1 u) s → va_S A H0 H1 locs1 → W p l e R s m args below meth c H1 locs1 (cells + mc) (slots + ms) Q (F0 m (pc + 3) ls (.int r :: rest))) : W p l e R s m args below meth c H locs cells slots Q (F0 m pc ls st0) := by
  have hF := va_free hD hS hA isC hC
  refine va_calli hr hS (fun q _ h => hF q h) hF (fun r u t H1 locs1 ht hvm hw hB hz hk1 hS1 => ?_)
  obtain ⟨j1, j2, j3⟩ := kback hP hD hK hS hA isC isR tR hC hR hn hdis htR ht hvm hB hk1
  exact kk r u H1 locs1 hw j1 j2 j3 hS1
theorem ka_v {S : Type} {post : S → Prop} {w1 : S → va_W} {t1 : S → List (ClassId × FieldType)} (hr : va_Run p l e R s m args below meth c H locs cells slots mc ms (F0 m pc ls st0) rest (va_Qv post (KB G w1 t1 (va_A wc H.size)) (va_A wc H.size) a) (va_A wc H.size))
    (hP : va_P G vwCl ws H) (hD : va_D A ws) (hK : va_K G vwCl tys s) (hS : va_S A H0 H locs) (hA : ∀ q : Nat, H0.size ≤ q → A q) (isC isR tR : List Nat) (hC : isC.map (fun i => ws[i]?) = wc.map some) (hR : isR.map (fun i => ws[i]?) = wr.map some) (hn : va_nd isR = true) (hdis : ∀ i ∈ isR, i ∉ isC) (htR : tR.filterMap (fun i => tys[i]?) = tr)
    (kk : ∀ (u : S) (H1 : Heap) (locs1 : List Loc), post u → va_P G vwCl (wr ++ w1 u) H1 → va_D A (wr ++ w1 u) → va_K G vwCl (tr ++ t1 u) s → va_S A H0 H1 locs1 → W p l e R s m args below meth c H1 locs1 (cells + mc) (slots + ms) Q (F0 m (pc + 3) ls rest)) : W p l e R s m args below meth c H locs cells slots Q (F0 m pc ls st0) := by
  have hF := va_free hD hS hA isC hC
  refine va_callv hr hS (fun q _ h => hF q h) hF (fun u t H1 locs1 ht hvm hw hB hz hk1 hS1 => ?_)
  obtain ⟨j1, j2, j3⟩ := kback hP hD hK hS hA isC isR tR hC hR hn hdis htR ht hvm hB hk1
  exact kk u H1 locs1 hw j1 j2 j3 hS1
/-- an answer that is a cell: its address is told by the world's tuple -/
def KQr {S : Type} (ad : S → Nat) (post : S → Prop) (B : S → State → Prop) (A : Nat → Prop) : Array Value → State → Outcome → State → Prop := va_Qr post (fun u q t => q = ad u ∧ B u t) A
theorem ka_r {S : Type} {ad : S → Nat} {post : S → Prop} {w1 : S → va_W} {t1 : S → List (ClassId × FieldType)} (hr : va_Run p l e R s m args below meth c H locs cells slots mc ms (F0 m pc ls st0) rest (KQr ad post (KB G w1 t1 (va_A wc H.size)) (va_A wc H.size) a) (va_A wc H.size))
    (hP : va_P G vwCl ws H) (hD : va_D A ws) (hK : va_K G vwCl tys s) (hS : va_S A H0 H locs) (hA : ∀ q : Nat, H0.size ≤ q → A q) (isC isR tR : List Nat) (hC : isC.map (fun i => ws[i]?) = wc.map some) (hR : isR.map (fun i => ws[i]?) = wr.map some) (hn : va_nd isR = true) (hdis : ∀ i ∈ isR, i ∉ isC) (htR : tR.filterMap (fun i => tys[i]?) = tr)
    (kk : ∀ (u : S) (H1 : Heap) (locs1 : List Loc), post u → va_P G vwCl (wr ++ w1 u) H1 → va_D A (wr ++ w1 u) → va_K G vwCl (tr ++ t1 u) s → va_S A H0 H1 locs1 → W p l e R s m args below meth c H1 locs1 (cells + mc) (slots + ms) Q (F0 m (pc + 3) ls (.ref (ad u) :: rest))) : W p l e R s m args below meth c H locs cells slots Q (F0 m pc ls st0) := by
  have hF := va_free hD hS hA isC hC
  refine va_callr hr hS (fun q _ h => hF q h) hF (fun u ra t H1 locs1 ht hvm hw hB hz hk1 hS1 => ?_)
  obtain ⟨rfl, hB⟩ := hB
  obtain ⟨j1, j2, j3⟩ := kback hP hD hK hS hA isC isR tR hC hR hn hdis htR ht hvm hB hk1
  exact kk u H1 locs1 hw j1 j2 j3 hS1
theorem kx_i {S : Type} {post : Int32 → S → Prop} {px : String → Prop} {w1 : S → va_W} {t1 : S → List (ClassId × FieldType)} (hr : vx_Run p l e R s m args below meth c H locs cells slots mc ms (F0 m pc ls st0) rest (va_Qi post (KB G w1 t1 (va_A wc H.size)) (va_A wc H.size) a) (KX px (va_A wc H.size)) (va_A wc H.size))
    (hP : va_P G vwCl ws H) (hD : va_D A ws) (hK : va_K G vwCl tys s) (hS : va_S A H0 H locs) (hA : ∀ q : Nat, H0.size ≤ q → A q) (isC isR tR : List Nat) (hC : isC.map (fun i => ws[i]?) = wc.map some) (hR : isR.map (fun i => ws[i]?) = wr.map some) (hn : va_nd isR = true) (hdis : ∀ i ∈ isR, i ∉ isC) (htR : tR.filterMap (fun i => tys[i]?) = tr)
    (kx : ∀ (E : String) (ce : Cell) (q9 : Addr) (H1 : Heap) (locs1 : List Loc), px E → va_P G vwCl wr H1 → va_D A wr → va_S A H0 H1 locs1 → H1[q9]? = some ce → ce.vm = .none → s.vm.findClass E = some ce.cls → vx_W p l e R s m args below meth c H1 locs1 (cells + mc) (slots + ms) Q (F0 m pc ls rest) q9)
    (kk : ∀ (r : Int32) (u : S) (H1 : Heap) (locs1 : List Loc), post r u → va_P G vwCl (wr ++ w1 u) H1 → va_D A (wr ++ w1 u) → va_K G vwCl (tr ++ t1 u) s → va_S A H0 H1 locs1 → W p l e R s m args below meth c H1 locs1 (cells + mc) (slots + ms) Q (F0 m (pc + 3) ls (.int r :: rest))) : W p l e R s m args below meth c H locs cells slots Q (F0 m pc ls st0) := by
  have hF := va_free hD hS hA isC hC
  refine vx_calli hr hS (fun q _ h => hF q h) hF (fun q _ h => hF q h) (fun E ce q9 u t H1 locs1 ht hvm hp hB hz hk1 hS1 hce hcv hcl => ?_) (fun r u t H1 locs1 ht hvm hw hB hz hk1 hS1 => ?_)
  · have hj := va_join (w1 := []) hP hD isC isR hC hR hn hdis hk1 hF (fun k q h => by simp at h) ⟨fun i j p q h => by simp at h, fun k q h => by simp at h⟩
    rw [List.append_nil] at hj
    exact kx E ce q9 H1 locs1 (by rw [show E = u from hB]; exact hp) hj.1 hj.2 hS1 hce hcv hcl
  · obtain ⟨j1, j2, j3⟩ := kback hP hD hK hS hA isC isR tR hC hR hn hdis htR ht hvm hB hk1
    exact kk r u H1 locs1 hw j1 j2 j3 hS1
theorem kx_v {S : Type} {post : S → Prop} {px : String → Prop} {w1 : S → va_W} {t1 : S → List (ClassId × FieldType)} (hr : vx_Run p l e R s m args below meth c H locs cells slots mc ms (F0 m pc ls st0) rest (va_Qv post (KB G w1 t1 (va_A wc H.size)) (va_A wc H.size) a) (KX px (va_A wc H.size)) (va_A wc H.size))
    (hP : va_P G vwCl ws H) (hD : va_D A ws) (hK : va_K G vwCl tys s) (hS : va_S A H0 H locs) (hA : ∀ q : Nat, H0.size ≤ q → A q) (isC isR tR : List Nat) (hC : isC.map (fun i => ws[i]?) = wc.map some) (hR : isR.map (fun i => ws[i]?) = wr.map some) (hn : va_nd isR = true) (hdis : ∀ i ∈ isR, i ∉ isC) (htR : tR.filterMap (fun i => tys[i]?) = tr)
    (kx : ∀ (E : String) (ce : Cell) (q9 : Addr) (H1 : Heap) (locs1 : List Loc), px E → va_P G vwCl wr H1 → va_D A wr → va_S A H0 H1 locs1 → H1[q9]? = some ce → ce.vm = .none → s.vm.findClass E = some ce.cls → vx_W p l e R s m args below meth c H1 locs1 (cells + mc) (slots + ms) Q (F0 m pc ls rest) q9)
    (kk : ∀ (u : S) (H1 : Heap) (locs1 : List Loc), post u → va_P G vwCl (wr ++ w1 u) H1 → va_D A (wr ++ w1 u) → va_K G vwCl (tr ++ t1 u) s → va_S A H0 H1 locs1 → W p l e R s m args below meth c H1 locs1 (cells + mc) (slots + ms) Q (F0 m (pc + 3) ls rest)) : W p l e R s m args below meth c H locs cells slots Q (F0 m pc ls st0) := by
  have hF := va_free hD hS hA isC hC
  refine vx_callv hr hS (fun q _ h => hF q h) hF (fun q _ h => hF q h) (fun E ce q9 u t H1 locs1 ht hvm hp hB hz hk1 hS1 hce hcv hcl => ?_) (fun u t H1 locs1 ht hvm hw hB hz hk1 hS1 => ?_)
  · have hj := va_join (w1 := []) hP hD isC isR hC hR hn hdis hk1 hF (fun k q h => by simp at h) ⟨fun i j p q h => by simp at h, fun k q h => by simp at h⟩
    rw [List.append_nil] at hj
    exact kx E ce q9 H1 locs1 (by rw [show E = u from hB]; exact hp) hj.1 hj.2 hS1 hce hcv hcl
  · obtain ⟨j1, j2, j3⟩ := kback hP hD hK hS hA isC isR tR hC hR hn hdis htR ht hvm hB hk1
    exact kk u H1 locs1 hw j1 j2 j3 hS1
end KCALL
section KEND
variable {p : Program} {l : Launch} {e : Env} {R : Room} {s : State} {m : MethodId} {args : Array Value} {below : List Frame} {meth : Method} {c : Code} {H : Heap} {locs : List Loc} {cells slots mc ms : Nat} {cc : ByteArray} {pc : Nat} {ls : Array Slot}
variable {G : va_G} {tys : List (ClassId × FieldType)} {ws : va_W} {A : Nat → Prop} {S : Type} {w1 : S → va_W} {t1 : S → List (ClassId × FieldType)}
theorem kKB (hP : va_P G vwCl ws H) (hD : va_D A ws) (hK : va_K G vwCl tys s) (u : S) (is ts : List Nat) (hn : va_nd is = true) (hs : is.map (fun i => ws[i]?) = (w1 u).map some) (hts : ts.filterMap (fun i => tys[i]?) = t1 u) {t : State} (ht : t.heap = H) (hW : s.WarmedH t.vm) : KB G w1 t1 A u t :=
  ⟨by rw [ht]; exact hP.sub is (kfm hs), va_K.moved hW.alike (hK.sub ts hts), hD.sub is hn hs⟩
theorem ke_i {post : Int32 → S → Prop} {v : Int32} {ty : FieldType} (hx : p.tables.exec = Jvm.exec) (hb : c.code = cc) (hr : meth.sig.returnType = some ty) (hlocks : meth.locks = false) (hnr : narrow ty (.int v) = .int v) (u : S) (hp : post v u) (hP : va_P G vwCl ws H) (hD : va_D A ws) (hK : va_K G vwCl tys s) (is ts : List Nat) (hn : va_nd is = true) (hs : is.map (fun i => ws[i]?) = (w1 u).map some) (hts : ts.filterMap (fun i => tys[i]?) = t1 u) (hS : va_S A s.heap H locs) (hc : cells ≤ mc) (hsl : slots ≤ ms) (hdg : decode cc pc = .ok (.ireturn, 1)) :
    W p l e R s m args below meth c H locs cells slots (MQ below (va_Qi post (KB G w1 t1 A) A) args s mc ms A) (F0 m pc ls [.int v]) := by
  refine W.widen hc hsl ?_
  exact W.zret (ty := ty) hx hb hr hnr (fun t ht hW => ⟨⟨v, u, rfl, hp, kKB hP hD hK u is ts hn hs hts ht hW⟩, hS.F ht⟩) hS.2.2 hdg hlocks
theorem ke_v {post : S → Prop} (hx : p.tables.exec = Jvm.exec) (hb : c.code = cc) (hr : meth.sig.returnType = none) (hlocks : meth.locks = false) (u : S) (hp : post u) (hP : va_P G vwCl ws H) (hD : va_D A ws) (hK : va_K G vwCl tys s) (is ts : List Nat) (hn : va_nd is = true) (hs : is.map (fun i => ws[i]?) = (w1 u).map some) (hts : ts.filterMap (fun i => tys[i]?) = t1 u) (hS : va_S A s.heap H locs) (hc : cells ≤ mc) (hsl : slots ≤ ms) (hdg : decode cc pc = .ok (.return_, 1)) :
    W p l e R s m args below meth c H locs cells slots (MQ below (va_Qv post (KB G w1 t1 A) A) args s mc ms A) (F0 m pc ls []) := by
  refine W.widen hc hsl ?_
  exact W.vret hx hb hr (fun t ht hW => ⟨⟨u, rfl, hp, kKB hP hD hK u is ts hn hs hts ht hW⟩, hS.F ht⟩) hS.2.2 hdg hlocks
theorem ke_r {ad : S → Nat} {post : S → Prop} {rt : FieldType} {v : Nat} (hx : p.tables.exec = Jvm.exec) (hb : c.code = cc) (hr : meth.sig.returnType = some rt) (hlocks : meth.locks = false) (hrt : (∃ n, rt = .object n) ∨ ∃ t, rt = .array t) (u : S) (hv : v = ad u) (hp : post u) (hP : va_P G vwCl ws H) (hD : va_D A ws) (hK : va_K G vwCl tys s) (is ts : List Nat) (hn : va_nd is = true) (hs : is.map (fun i => ws[i]?) = (w1 u).map some) (hts : ts.filterMap (fun i => tys[i]?) = t1 u) (hS : va_S A s.heap H locs) (hc : cells ≤ mc) (hsl : slots ≤ ms) (hdg : decode cc pc = .ok (.areturn, 1)) :
    W p l e R s m args below meth c H locs cells slots (MQ below (KQr ad post (KB G w1 t1 A) A) args s mc ms A) (F0 m pc ls [.ref v]) := by
  refine W.widen hc hsl ?_
  exact W.aret hx hb hr hrt (Or.inr ⟨v, rfl⟩) (fun t ht hW => ⟨⟨u, v, rfl, hp, hv, kKB hP hD hK u is ts hn hs hts ht hW⟩, hS.F ht⟩) hS.2.2 hdg hlocks
/-- a throw that goes on to the caller -/
theorem ko {Qc : Array Value → State → Outcome → State → Prop} {px : String → Prop} {rest : List Value} {E : String} {ce : Cell} {q9 : Addr} (hno : ∀ x ∈ c.exceptionTable.toList, False) (hlocks : meth.locks = false) (hE : px E) (hce : H[q9]? = some ce) (hcv : ce.vm = .none) (hcl : s.vm.findClass E = some ce.cls) (hS : va_S A s.heap H locs) (hc : cells ≤ mc) (hsl : slots ≤ ms) :
    vx_W p l e R s m args below meth c H locs cells slots (vx_MQ below Qc (KX px A) args s mc ms A) (F0 m pc ls rest) q9 :=
  vx_out (fun x hx => (hno x hx).elim) hlocks hce hcv hcl (fun t ht hvm => ⟨E, hE, rfl, hS.F ht⟩) hS.2.2 hc hsl
end KEND
