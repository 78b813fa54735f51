/-! THE CONSTRUCTORS, by the kit's own rows -/
theorem xd_enter {l : Launch} {y : xk_Y} {Ts : List Cond} {rm : Room} {args : List Value} {Pr : State → Prop} {Qc : Array Value → State → Outcome → State → Prop} {mc ms sz : Nat} {free : Addr → Prop} (hy : plainName y.1.cls = true) (hlen : (lg_sl args).length ≤ y.2.2.1)
    (body : ∀ (p : Program) (e : Env) (R : Room) (s : State) (m : MethodId) (below : List Frame) (meth : Method) (c : Code) (ls : Array Slot), R = rm → p.tables.exec = Jvm.exec → c.code = y.2.1 → c.maxLocals = y.2.2.1 → meth.sig.returnType = y.2.2.2 → meth.locks = false → s.vm.findClass y.1.cls = some m.cls → meth.name = y.1.name → (∀ w ∈ Ts, w.before args.toArray s = true) → s.heap.size = sz → Pr s → lv_has ls y.2.2.1 (lv_args 0 args) → W p l e R s m args.toArray below meth c s.heap [] 0 0 (MQ below Qc args.toArray s mc ms free) (F0 m 0 ls [])) :
    Met l y.1 (.code y.1 y.2.1 y.2.2.1 y.2.2.2 :: Ts) rm (va_Pc args (fun U => U.heap.size = sz ∧ Pr U)) Qc mc ms free := by
  refine Met.ofW (cc := y.2.1) (maxL := y.2.2.1) (ret := y.2.2.2) hy rfl ?_
  intro p e s m vargs below meth c s₁ B hml hv
  obtain ⟨rfl, hsz, hPr⟩ := hv
  have hts := atoms_spec (ws := .code y.1 y.2.1 y.2.2.1 y.2.2.2 :: Ts) B.pre
  have hown : s.vm.findClass y.1.cls = some m.cls := findClass_of_methodNamed B.named
  have hl := lv_entry args (n := y.2.2.1) hlen
  rw [lg_entry_eq]
  exact body p e _ s m below meth c _ rfl B.exec B.bytes hml B.returns B.notSynchronized hown (name_of_methodNamed B.named B.method).1 (fun w h => hts w (List.mem_cons_of_mem _ h)) hsz hPr hl
def xk_zero : xk_St := (fun _ _ => 0, fun _ _ => 0)
def xd_N (U : State) : Prop := (∀ v ∈ xt_N, xk_nw v = true ∧ va_Nw v U) ∧ va_AO RU U
theorem xd_N.moved {s U : State} (h : xd_N s) (hW : s.WarmedH U.vm) : xd_N U := ⟨fun v hv => ⟨(h.1 v hv).1, xk_nw_warm (h.1 v hv).1 hW (h.1 v hv).2⟩, va_AO.moved hW.alike h.2⟩
theorem xd_N.same {u U : State} (hvm : u.vm = U.vm) (h : xd_N u) : xd_N U := ⟨fun v hv => ⟨(h.1 v hv).1, va_Nw.same (xk_nw_tab (h.1 v hv).1) hvm (h.1 v hv).2⟩, va_AO.moved (by rw [← hvm]; exact Vm.Alike.refl u.vm) h.2⟩
theorem xd_good {y : xk_Y} (h : Cond.code y.1 y.2.1 y.2.2.1 y.2.2.2 ∈ xt_T) : GoodIn xt_T (Cond.code y.1 y.2.1 y.2.2.1 y.2.2.2 :: xt_T) := by
  intro v hv
  rcases List.mem_cons.mp hv with rfl | h2
  · exact ⟨h, xt_goodT _ h⟩
  · exact ⟨h2, xt_goodT _ h2⟩
theorem xd_memN {v : Cond} (i : Nat) (h : tables_1[i]? = some v) (g : xk_nw v = true) : v ∈ xt_N := List.mem_filter.mpr ⟨List.mem_append_right _ (List.mem_of_getElem? h), g⟩
def xd_G0 : xk_D := ((fun _ => 0, fun _ _ => 0), (fun _ => 0, fun _ => 0))
theorem xd_cell {cA : ClassId} {n : Nat} {f g : Nat → Option Nat} (h : ∀ j, j < n → f j = g j) : vp_cell cA (n, .inr (.inr (.inr (.inr f)))) = vp_cell cA (n, .inr (.inr (.inr (.inr g)))) := by
  rw [vp_cell_q, vp_cell_q]
  unfold arrV
  congr 1
  congr 1
  funext j
  show va_rf (f j.val) = va_rf (g j.val)
  rw [h j.val j.isLt]
theorem xd_refs {D : va_G} {cl : List vw_C} {ws : va_W} {H : Heap} (hP : va_P D cl ws H) (k : Nat) {a n : Nat} {cA : ClassId} {f g : Nat → Option Nat} (hk : ws[k]? = some (a, .inl (cA, n, .inr (.inr (.inr (.inr f)))))) (h : ∀ j, j < n → f j = g j) : va_P D cl (ws.set k (a, .inl (cA, n, .inr (.inr (.inr (.inr g)))))) H := by
  intro i q hi
  have hl := (List.getElem?_eq_some_iff.mp hk).1
  by_cases e : k = i
  · subst e
    rw [List.getElem?_set_self hl] at hi
    cases hi
    have h1 := hP k _ hk
    show H[a]? = some (vp_cell cA (n, .inr (.inr (.inr (.inr g)))))
    rw [← xd_cell h]
    exact h1
  · rw [List.getElem?_set_ne e] at hi
    exact hP i q hi
theorem xd_refsD {A : Nat → Prop} {ws : va_W} (hD : va_D A ws) (k : Nat) {a n : Nat} {cA : ClassId} {f g : Nat → Option Nat} (hk : ws[k]? = some (a, .inl (cA, n, .inr (.inr (.inr (.inr f)))))) : va_D A (ws.set k (a, .inl (cA, n, .inr (.inr (.inr (.inr g)))))) := hD.set hk
theorem xt_inG : ∀ v ∈ u_ws RG FG 4, v ∈ xt_T := (xc_clG xd_G0).1
theorem xt_tyG : ∀ k, k < 4 → parseFieldDescriptor (FG k).2.2.1 = some (TG k) := (xc_clG xd_G0).2.2.1
theorem xt_nmG : ∀ a, a < 4 → ∀ b, b < 4 → a ≠ b → (FG a).2.1 ≠ (FG b).2.1 := (xc_clG xd_G0).2.2.2
theorem xt_inL : ∀ v ∈ u_ws RL FL 5, v ∈ xt_T := (xc_clL xd_G0).1
theorem xt_tyL : ∀ k, k < 5 → parseFieldDescriptor (FL k).2.2.1 = some (TL k) := (xc_clL xd_G0).2.2.1
theorem xt_nmL : ∀ a, a < 5 → ∀ b, b < 5 → a ≠ b → (FL a).2.1 ≠ (FL b).2.1 := (xc_clL xd_G0).2.2.2
theorem xt_inP : ∀ v ∈ u_ws RP FP 4, v ∈ xt_T := (xc_clP xd_G0).1
theorem xt_tyP : ∀ k, k < 4 → parseFieldDescriptor (FP k).2.2.1 = some (TP k) := (xc_clP xd_G0).2.2.1
theorem xt_nmP : ∀ a, a < 4 → ∀ b, b < 4 → a ≠ b → (FP a).2.1 ≠ (FP b).2.1 := (xc_clP xd_G0).2.2.2
theorem xt_inU : ∀ v ∈ u_ws RU FU 11, v ∈ xt_T := (xc_clU xd_G0).1
theorem xt_tyU : ∀ k, k < 11 → parseFieldDescriptor (FU k).2.2.1 = some (TU k) := (xc_clU xd_G0).2.2.1
theorem xt_nmU : ∀ a, a < 11 → ∀ b, b < 11 → a ≠ b → (FU a).2.1 ≠ (FU b).2.1 := (xc_clU xd_G0).2.2.2
theorem xt_inF : ∀ v ∈ u_ws RF FF 7, v ∈ xt_T := (xc_clF xd_G0).1
theorem xt_tyF : ∀ k, k < 7 → parseFieldDescriptor (FF k).2.2.1 = some (TF k) := (xc_clF xd_G0).2.2.1
theorem xt_nmF : ∀ a, a < 7 → ∀ b, b < 7 → a ≠ b → (FF a).2.1 ≠ (FF b).2.1 := (xc_clF xd_G0).2.2.2
theorem xt_inM : ∀ v ∈ u_ws RM FM 30, v ∈ xt_T := (xm_clM xd_G0).1
theorem xt_tyM : ∀ k, k < 30 → parseFieldDescriptor (FM k).2.2.1 = some (TM k) := (xm_clM xd_G0).2.2.1
theorem xt_nmM : ∀ a, a < 30 → ∀ b, b < 30 → a ≠ b → (FM a).2.1 ≠ (FM b).2.1 := (xm_clM xd_G0).2.2.2
set_option maxHeartbeats 1000000 in
set_option maxRecDepth 100000 in
theorem k_U_init (l : Launch) (dC : Nat → ClassId) (dI : Nat → Nat → Nat) (h0 sz : Nat) : Met l y_U_init.1 (.code y_U_init.1 y_U_init.2.1 y_U_init.2.2.1 y_U_init.2.2.2 :: xt_T) { frames := 1, cells := 1, slots := 64, locals := 40 } (va_Pc [.ref h0] (fun U => U.heap.size = sz ∧ va_P (dC, dI) xt_C [(h0, .inr (3, [.int 0, .int 0, .int 0, .int 0, .int 0, .int 0, .int 0, .int 0, .null, .int 0, .int 0]))] U.heap ∧ va_K (dC, dI) xt_C [] U ∧ va_D (fun _ => True) [(h0, .inr (3, [.int 0, .int 0, .int 0, .int 0, .int 0, .int 0, .int 0, .int 0, .null, .int 0, .int 0]))] ∧ xd_N U)) (va_Qv (fun _ : (Nat → Nat) × (Nat → ClassId) => True) (fun u t => va_P (dC, dI) xt_C [(h0, .inr (3, [.int 0, .int 0, .int 0, .int 0, .int 0, .int 0, .int 0, .int 0, .ref (u.1 0), .int 0, .int 0])), ((u.1 0), .inl ((u.2 0), 64, .inl (fun _ => 0)))] t.heap ∧ va_K (dC, dI) xt_C [((u.2 0), .int)] t ∧ va_D (va_A [(h0, .inr (3, [.int 0, .int 0, .int 0, .int 0, .int 0, .int 0, .int 0, .int 0, .null, .int 0, .int 0]))] sz) [(h0, .inr (3, [.int 0, .int 0, .int 0, .int 0, .int 0, .int 0, .int 0, .int 0, .ref (u.1 0), .int 0, .int 0])), ((u.1 0), .inl ((u.2 0), 64, .inl (fun _ => 0)))]) (va_A [(h0, .inr (3, [.int 0, .int 0, .int 0, .int 0, .int 0, .int 0, .int 0, .int 0, .null, .int 0, .int 0]))] sz)) 1 64 (va_A [(h0, .inr (3, [.int 0, .int 0, .int 0, .int 0, .int 0, .int 0, .int 0, .int 0, .null, .int 0, .int 0]))] sz) := by
  refine xd_enter (y := y_U_init) (Ts := xt_T) (by decide) (Nat.le_of_ble_eq_true rfl) ?_
  intro p e R s m below meth c ls hR hx hb hml hr hlocks hown hin hts hsz hPr hl
  obtain ⟨hP, hK, hD0, hN⟩ := hPr
  subst hR
  subst hsz
  have hD := hD0.self (sz := s.heap.size)
  generalize hAe : va_A [(h0, .inr (3, [.int 0, .int 0, .int 0, .int 0, .int 0, .int 0, .int 0, .int 0, .null, .int 0, .int 0]))] s.heap.size = A at hD ⊢
  have hA : ∀ q : Nat, s.heap.size ≤ q → A q := fun q h => by rw [← hAe]; exact Or.inr h
  have hS : va_S A s.heap s.heap [] := va_S.rf
  have hP : va_P (dC, dI) xt_C [(h0, .inr (3, [.int 0, .int 0, .int 0, .int 0, .int 0, .int 0, .int 0, .int 0, .null, .int 0, .int 0]))] s.heap := hP
  have hl : lv_has ls 1 [(0, .ref h0)] := hl
  refine lv_aload_n hx hb d_U_init_0.1 rfl (lv_at hl 0 rfl) ?_
  refine W.objInit hx hb hown (hts (.methodLink RU 3 Lib.objectInit) (xj_mem 78 (by decide +kernel) (by decide +kernel))) (hts (.instanceMethod Lib.objectInit) (xj_mem 16 (by decide +kernel) (by decide +kernel))) (hts (.code Lib.objectInit ⟨#[0xb1]⟩ 1 none) (xj_mem 17 (by decide +kernel) (by decide +kernel))) rfl (by rw [hml]; exact hl.1) rfl d_U_init_1.1 (Nat.le_of_ble_eq_true rfl) (Nat.le_of_ble_eq_true rfl) ?_
  refine W.eq (g2 := F0 m 4 ls []) rfl ?_
  refine lv_aload_n hx hb d_U_init_4.1 rfl (lv_at hl 0 rfl) ?_
  refine lv_bipush (v := 64) hx hb d_U_init_5.1 (by decide) ?_
  refine va_newa (atype := .int) (ty := .int) (N' := 64) (a0 := (64, .inl (fun _ => 0))) hx hb (hts (.arrayClass .int) (xj_mem 37 (by decide +kernel) (by decide +kernel))) rfl hK hP hD hS hA (fun _ => vp_cell_i _ _ _) (by decide +kernel) (by decide +kernel) (by decide +kernel) (show 1 ≤ 1 by decide) (show 64 ≤ 64 by decide) d_U_init_7.1 (fun q7 k7 H hK hP hD hS => ?_)
  have hP : va_P (dC, dI) xt_C [(h0, .inr (3, [.int 0, .int 0, .int 0, .int 0, .int 0, .int 0, .int 0, .int 0, .null, .int 0, .int 0])), (q7, .inl (k7, 64, .inl (fun _ => 0)))] H := hP
  have hD : va_D A [(h0, .inr (3, [.int 0, .int 0, .int 0, .int 0, .int 0, .int 0, .int 0, .int 0, .null, .int 0, .int 0])), (q7, .inl (k7, 64, .inl (fun _ => 0)))] := hD
  have hK : va_K (dC, dI) xt_C [(k7, .int)] s := hK
  refine W.widen (k := 1) (n := 64) (by decide) (by decide) ?_
  refine va_putF (D := (dC, dI)) (ci := 3) (v := .ref q7) (ty := .array .int) (C := RU) (T := FU) (N := 11) hx hb hts xt_inU TU xt_tyU xt_nmU hown hK hP hD hS 0 rfl rfl 8 (by decide) (hts (.fieldLink RU 9 "LockstepField$Unit" "route" "[I") (xj_mem 97 (by decide +kernel) (by decide +kernel))) (fun _ h9 => h9) rfl hin rfl (by decide +kernel) rfl rfl (Nat.le_of_ble_eq_true rfl) d_U_init_9.1 (fun H locs hP hD hS => ?_)
  have hP : va_P (dC, dI) xt_C [(h0, .inr (3, [.int 0, .int 0, .int 0, .int 0, .int 0, .int 0, .int 0, .int 0, .ref q7, .int 0, .int 0])), (q7, .inl (k7, 64, .inl (fun _ => 0)))] H := hP
  have hD : va_D A [(h0, .inr (3, [.int 0, .int 0, .int 0, .int 0, .int 0, .int 0, .int 0, .int 0, .ref q7, .int 0, .int 0])), (q7, .inl (k7, 64, .inl (fun _ => 0)))] := hD
  exact W.vret hx hb hr (fun t ht hW => ⟨⟨(fun k => match k with | _ => q7, fun k => match k with | _ => k7), rfl, trivial, by rw [ht]; exact hP, va_K.moved hW.alike hK, hD⟩, hS.F ht⟩) hS.2.2 d_U_init_12.1
set_option maxHeartbeats 1000000 in
set_option maxRecDepth 100000 in
theorem k_G_init (l : Launch) (dC : Nat → ClassId) (dI : Nat → Nat → Nat) (h0 sz : Nat) : Met l y_G_init.1 (.code y_G_init.1 y_G_init.2.1 y_G_init.2.2.1 y_G_init.2.2.2 :: xt_T) { frames := 1, cells := 3, slots := 192, locals := 40 } (va_Pc [.ref h0] (fun U => U.heap.size = sz ∧ va_P (dC, dI) xt_C [(h0, .inr (0, [.long 0, .null, .null, .null]))] U.heap ∧ va_K (dC, dI) xt_C [] U ∧ va_D (fun _ => True) [(h0, .inr (0, [.long 0, .null, .null, .null]))] ∧ xd_N U)) (va_Qv (fun _ : (Nat → Nat) × (Nat → ClassId) => True) (fun u t => va_P (dC, dI) xt_C [(h0, .inr (0, [.long 0, .ref (u.1 0), .ref (u.1 1), .ref (u.1 2)])), ((u.1 0), .inl ((u.2 0), 64, .inl (fun _ => 0))), ((u.1 1), .inl ((u.2 1), 64, .inl (fun _ => 0))), ((u.1 2), .inl ((u.2 2), 64, .inl (fun _ => 0)))] t.heap ∧ va_K (dC, dI) xt_C [((u.2 0), .int), ((u.2 1), .int), ((u.2 2), .int)] t ∧ va_D (va_A [(h0, .inr (0, [.long 0, .null, .null, .null]))] sz) [(h0, .inr (0, [.long 0, .ref (u.1 0), .ref (u.1 1), .ref (u.1 2)])), ((u.1 0), .inl ((u.2 0), 64, .inl (fun _ => 0))), ((u.1 1), .inl ((u.2 1), 64, .inl (fun _ => 0))), ((u.1 2), .inl ((u.2 2), 64, .inl (fun _ => 0)))]) (va_A [(h0, .inr (0, [.long 0, .null, .null, .null]))] sz)) 3 192 (va_A [(h0, .inr (0, [.long 0, .null, .null, .null]))] sz) := by
  refine xd_enter (y := y_G_init) (Ts := xt_T) (by decide) (Nat.le_of_ble_eq_true rfl) ?_
  intro p e R s m below meth c ls hR hx hb hml hr hlocks hown hin hts hsz hPr hl
  obtain ⟨hP, hK, hD0, hN⟩ := hPr
  subst hR
  subst hsz
  have hD := hD0.self (sz := s.heap.size)
  generalize hAe : va_A [(h0, .inr (0, [.long 0, .null, .null, .null]))] s.heap.size = A at hD ⊢
  have hA : ∀ q : Nat, s.heap.size ≤ q → A q := fun q h => by rw [← hAe]; exact Or.inr h
  have hS : va_S A s.heap s.heap [] := va_S.rf
  have hP : va_P (dC, dI) xt_C [(h0, .inr (0, [.long 0, .null, .null, .null]))] s.heap := hP
  have hl : lv_has ls 1 [(0, .ref h0)] := hl
  refine lv_aload_n hx hb d_G_init_0.1 rfl (lv_at hl 0 rfl) ?_
  refine W.objInit hx hb hown (hts (.methodLink RG 3 Lib.objectInit) (xj_mem 23 (by decide +kernel) (by decide +kernel))) (hts (.instanceMethod Lib.objectInit) (xj_mem 16 (by decide +kernel) (by decide +kernel))) (hts (.code Lib.objectInit ⟨#[0xb1]⟩ 1 none) (xj_mem 17 (by decide +kernel) (by decide +kernel))) rfl (by rw [hml]; exact hl.1) rfl d_G_init_1.1 (Nat.le_of_ble_eq_true rfl) (Nat.le_of_ble_eq_true rfl) ?_
  refine W.eq (g2 := F0 m 4 ls []) rfl ?_
  refine lv_aload_n hx hb d_G_init_4.1 rfl (lv_at hl 0 rfl) ?_
  refine lv_bipush (v := 64) hx hb d_G_init_5.1 (by decide) ?_
  refine va_newa (atype := .int) (ty := .int) (N' := 64) (a0 := (64, .inl (fun _ => 0))) hx hb (hts (.arrayClass .int) (xj_mem 37 (by decide +kernel) (by decide +kernel))) rfl hK hP hD hS hA (fun _ => vp_cell_i _ _ _) (by decide +kernel) (by decide +kernel) (by decide +kernel) (show 1 ≤ 3 by decide) (show 64 ≤ 192 by decide) d_G_init_7.1 (fun q7 k7 H hK hP hD hS => ?_)
  have hP : va_P (dC, dI) xt_C [(h0, .inr (0, [.long 0, .null, .null, .null])), (q7, .inl (k7, 64, .inl (fun _ => 0)))] H := hP
  have hD : va_D A [(h0, .inr (0, [.long 0, .null, .null, .null])), (q7, .inl (k7, 64, .inl (fun _ => 0)))] := hD
  have hK : va_K (dC, dI) xt_C [(k7, .int)] s := hK
  refine W.widen (k := 1) (n := 64) (by decide) (by decide) ?_
  refine va_putF (D := (dC, dI)) (ci := 0) (v := .ref q7) (ty := .array .int) (C := RG) (T := FG) (N := 4) hx hb hts xt_inG TG xt_tyG xt_nmG hown hK hP hD hS 0 rfl rfl 1 (by decide) (hts (.fieldLink RG 9 "LockstepField$Ground" "queue" "[I") (xj_mem 25 (by decide +kernel) (by decide +kernel))) (fun _ h9 => h9) rfl hin rfl (by decide +kernel) rfl rfl (Nat.le_of_ble_eq_true rfl) d_G_init_9.1 (fun H locs hP hD hS => ?_)
  have hP : va_P (dC, dI) xt_C [(h0, .inr (0, [.long 0, .ref q7, .null, .null])), (q7, .inl (k7, 64, .inl (fun _ => 0)))] H := hP
  have hD : va_D A [(h0, .inr (0, [.long 0, .ref q7, .null, .null])), (q7, .inl (k7, 64, .inl (fun _ => 0)))] := hD
  refine lv_aload_n hx hb d_G_init_12.1 rfl (lv_at hl 0 rfl) ?_
  refine lv_bipush (v := 64) hx hb d_G_init_13.1 (by decide) ?_
  refine va_newa (atype := .int) (ty := .int) (N' := 64) (a0 := (64, .inl (fun _ => 0))) hx hb (hts (.arrayClass .int) (xj_mem 37 (by decide +kernel) (by decide +kernel))) rfl hK hP hD hS hA (fun _ => vp_cell_i _ _ _) (by decide +kernel) (by decide +kernel) (by decide +kernel) (show 2 ≤ 3 by decide) (show 128 ≤ 192 by decide) d_G_init_15.1 (fun q15 k15 H hK hP hD hS => ?_)
  have hP : va_P (dC, dI) xt_C [(h0, .inr (0, [.long 0, .ref q7, .null, .null])), (q7, .inl (k7, 64, .inl (fun _ => 0))), (q15, .inl (k15, 64, .inl (fun _ => 0)))] H := hP
  have hD : va_D A [(h0, .inr (0, [.long 0, .ref q7, .null, .null])), (q7, .inl (k7, 64, .inl (fun _ => 0))), (q15, .inl (k15, 64, .inl (fun _ => 0)))] := hD
  have hK : va_K (dC, dI) xt_C [(k7, .int), (k15, .int)] s := hK
  refine W.widen (k := 2) (n := 128) (by decide) (by decide) ?_
  refine va_putF (D := (dC, dI)) (ci := 0) (v := .ref q15) (ty := .array .int) (C := RG) (T := FG) (N := 4) hx hb hts xt_inG TG xt_tyG xt_nmG hown hK hP hD hS 0 rfl rfl 2 (by decide) (hts (.fieldLink RG 15 "LockstepField$Ground" "cameFrom" "[I") (xj_mem 26 (by decide +kernel) (by decide +kernel))) (fun _ h9 => h9) rfl hin rfl (by decide +kernel) rfl rfl (Nat.le_of_ble_eq_true rfl) d_G_init_17.1 (fun H locs hP hD hS => ?_)
  have hP : va_P (dC, dI) xt_C [(h0, .inr (0, [.long 0, .ref q7, .ref q15, .null])), (q7, .inl (k7, 64, .inl (fun _ => 0))), (q15, .inl (k15, 64, .inl (fun _ => 0)))] H := hP
  have hD : va_D A [(h0, .inr (0, [.long 0, .ref q7, .ref q15, .null])), (q7, .inl (k7, 64, .inl (fun _ => 0))), (q15, .inl (k15, 64, .inl (fun _ => 0)))] := hD
  refine lv_aload_n hx hb d_G_init_20.1 rfl (lv_at hl 0 rfl) ?_
  refine lv_bipush (v := 64) hx hb d_G_init_21.1 (by decide) ?_
  refine va_newa (atype := .int) (ty := .int) (N' := 64) (a0 := (64, .inl (fun _ => 0))) hx hb (hts (.arrayClass .int) (xj_mem 37 (by decide +kernel) (by decide +kernel))) rfl hK hP hD hS hA (fun _ => vp_cell_i _ _ _) (by decide +kernel) (by decide +kernel) (by decide +kernel) (show 3 ≤ 3 by decide) (show 192 ≤ 192 by decide) d_G_init_23.1 (fun q23 k23 H hK hP hD hS => ?_)
  have hP : va_P (dC, dI) xt_C [(h0, .inr (0, [.long 0, .ref q7, .ref q15, .null])), (q7, .inl (k7, 64, .inl (fun _ => 0))), (q15, .inl (k15, 64, .inl (fun _ => 0))), (q23, .inl (k23, 64, .inl (fun _ => 0)))] H := hP
  have hD : va_D A [(h0, .inr (0, [.long 0, .ref q7, .ref q15, .null])), (q7, .inl (k7, 64, .inl (fun _ => 0))), (q15, .inl (k15, 64, .inl (fun _ => 0))), (q23, .inl (k23, 64, .inl (fun _ => 0)))] := hD
  have hK : va_K (dC, dI) xt_C [(k7, .int), (k15, .int), (k23, .int)] s := hK
  refine W.widen (k := 3) (n := 192) (by decide) (by decide) ?_
  refine va_putF (D := (dC, dI)) (ci := 0) (v := .ref q23) (ty := .array .int) (C := RG) (T := FG) (N := 4) hx hb hts xt_inG TG xt_tyG xt_nmG hown hK hP hD hS 0 rfl rfl 3 (by decide) (hts (.fieldLink RG 18 "LockstepField$Ground" "stepsTo" "[I") (xj_mem 27 (by decide +kernel) (by decide +kernel))) (fun _ h9 => h9) rfl hin rfl (by decide +kernel) rfl rfl (Nat.le_of_ble_eq_true rfl) d_G_init_25.1 (fun H locs hP hD hS => ?_)
  have hP : va_P (dC, dI) xt_C [(h0, .inr (0, [.long 0, .ref q7, .ref q15, .ref q23])), (q7, .inl (k7, 64, .inl (fun _ => 0))), (q15, .inl (k15, 64, .inl (fun _ => 0))), (q23, .inl (k23, 64, .inl (fun _ => 0)))] H := hP
  have hD : va_D A [(h0, .inr (0, [.long 0, .ref q7, .ref q15, .ref q23])), (q7, .inl (k7, 64, .inl (fun _ => 0))), (q15, .inl (k15, 64, .inl (fun _ => 0))), (q23, .inl (k23, 64, .inl (fun _ => 0)))] := hD
  exact W.vret hx hb hr (fun t ht hW => ⟨⟨(fun k => match k with | 0 => q7 | 1 => q15 | _ => q23, fun k => match k with | 0 => k7 | 1 => k15 | _ => k23), rfl, trivial, by rw [ht]; exact hP, va_K.moved hW.alike hK, hD⟩, hS.F ht⟩) hS.2.2 d_G_init_28.1
set_option maxHeartbeats 1000000 in
set_option maxRecDepth 100000 in
theorem k_L_init (l : Launch) (dC : Nat → ClassId) (dI : Nat → Nat → Nat) (h0 sz : Nat) : Met l y_L_init.1 (.code y_L_init.1 y_L_init.2.1 y_L_init.2.2.1 y_L_init.2.2.2 :: xt_T) { frames := 1, cells := 4, slots := 96, locals := 40 } (va_Pc [.ref h0] (fun U => U.heap.size = sz ∧ va_P (dC, dI) xt_C [(h0, .inr (1, [.null, .null, .null, .null, .int 0]))] U.heap ∧ va_K (dC, dI) xt_C [] U ∧ va_D (fun _ => True) [(h0, .inr (1, [.null, .null, .null, .null, .int 0]))] ∧ xd_N U)) (va_Qv (fun _ : (Nat → Nat) × (Nat → ClassId) => True) (fun u t => va_P (dC, dI) xt_C [(h0, .inr (1, [.ref (u.1 0), .ref (u.1 1), .ref (u.1 2), .ref (u.1 3), .int 0])), ((u.1 0), .inl ((u.2 0), 24, .inl (fun _ => 0))), ((u.1 1), .inl ((u.2 1), 24, .inl (fun _ => 0))), ((u.1 2), .inl ((u.2 2), 24, .inl (fun _ => 0))), ((u.1 3), .inl ((u.2 3), 24, .inl (fun _ => 0)))] t.heap ∧ va_K (dC, dI) xt_C [((u.2 0), .int), ((u.2 1), .int), ((u.2 2), .int), ((u.2 3), .int)] t ∧ va_D (va_A [(h0, .inr (1, [.null, .null, .null, .null, .int 0]))] sz) [(h0, .inr (1, [.ref (u.1 0), .ref (u.1 1), .ref (u.1 2), .ref (u.1 3), .int 0])), ((u.1 0), .inl ((u.2 0), 24, .inl (fun _ => 0))), ((u.1 1), .inl ((u.2 1), 24, .inl (fun _ => 0))), ((u.1 2), .inl ((u.2 2), 24, .inl (fun _ => 0))), ((u.1 3), .inl ((u.2 3), 24, .inl (fun _ => 0)))]) (va_A [(h0, .inr (1, [.null, .null, .null, .null, .int 0]))] sz)) 4 96 (va_A [(h0, .inr (1, [.null, .null, .null, .null, .int 0]))] sz) := by
  refine xd_enter (y := y_L_init) (Ts := xt_T) (by decide) (Nat.le_of_ble_eq_true rfl) ?_
  intro p e R s m below meth c ls hR hx hb hml hr hlocks hown hin hts hsz hPr hl
  obtain ⟨hP, hK, hD0, hN⟩ := hPr
  subst hR
  subst hsz
  have hD := hD0.self (sz := s.heap.size)
  generalize hAe : va_A [(h0, .inr (1, [.null, .null, .null, .null, .int 0]))] s.heap.size = A at hD ⊢
  have hA : ∀ q : Nat, s.heap.size ≤ q → A q := fun q h => by rw [← hAe]; exact Or.inr h
  have hS : va_S A s.heap s.heap [] := va_S.rf
  have hP : va_P (dC, dI) xt_C [(h0, .inr (1, [.null, .null, .null, .null, .int 0]))] s.heap := hP
  have hl : lv_has ls 1 [(0, .ref h0)] := hl
  refine lv_aload_n hx hb d_L_init_0.1 rfl (lv_at hl 0 rfl) ?_
  refine W.objInit hx hb hown (hts (.methodLink RL 3 Lib.objectInit) (xj_mem 43 (by decide +kernel) (by decide +kernel))) (hts (.instanceMethod Lib.objectInit) (xj_mem 16 (by decide +kernel) (by decide +kernel))) (hts (.code Lib.objectInit ⟨#[0xb1]⟩ 1 none) (xj_mem 17 (by decide +kernel) (by decide +kernel))) rfl (by rw [hml]; exact hl.1) rfl d_L_init_1.1 (Nat.le_of_ble_eq_true rfl) (Nat.le_of_ble_eq_true rfl) ?_
  refine W.eq (g2 := F0 m 4 ls []) rfl ?_
  refine lv_aload_n hx hb d_L_init_4.1 rfl (lv_at hl 0 rfl) ?_
  refine lv_bipush (v := 24) hx hb d_L_init_5.1 (by decide) ?_
  refine va_newa (atype := .int) (ty := .int) (N' := 24) (a0 := (24, .inl (fun _ => 0))) hx hb (hts (.arrayClass .int) (xj_mem 37 (by decide +kernel) (by decide +kernel))) rfl hK hP hD hS hA (fun _ => vp_cell_i _ _ _) (by decide +kernel) (by decide +kernel) (by decide +kernel) (show 1 ≤ 4 by decide) (show 24 ≤ 96 by decide) d_L_init_7.1 (fun q7 k7 H hK hP hD hS => ?_)
  have hP : va_P (dC, dI) xt_C [(h0, .inr (1, [.null, .null, .null, .null, .int 0])), (q7, .inl (k7, 24, .inl (fun _ => 0)))] H := hP
  have hD : va_D A [(h0, .inr (1, [.null, .null, .null, .null, .int 0])), (q7, .inl (k7, 24, .inl (fun _ => 0)))] := hD
  have hK : va_K (dC, dI) xt_C [(k7, .int)] s := hK
  refine W.widen (k := 1) (n := 24) (by decide) (by decide) ?_
  refine va_putF (D := (dC, dI)) (ci := 1) (v := .ref q7) (ty := .array .int) (C := RL) (T := FL) (N := 5) hx hb hts xt_inL TL xt_tyL xt_nmL hown hK hP hD hS 0 rfl rfl 0 (by decide) (hts (.fieldLink RL 9 "LockstepField$Log" "ticks" "[I") (xj_mem 44 (by decide +kernel) (by decide +kernel))) (fun _ h9 => h9) rfl hin rfl (by decide +kernel) rfl rfl (Nat.le_of_ble_eq_true rfl) d_L_init_9.1 (fun H locs hP hD hS => ?_)
  have hP : va_P (dC, dI) xt_C [(h0, .inr (1, [.ref q7, .null, .null, .null, .int 0])), (q7, .inl (k7, 24, .inl (fun _ => 0)))] H := hP
  have hD : va_D A [(h0, .inr (1, [.ref q7, .null, .null, .null, .int 0])), (q7, .inl (k7, 24, .inl (fun _ => 0)))] := hD
  refine lv_aload_n hx hb d_L_init_12.1 rfl (lv_at hl 0 rfl) ?_
  refine lv_bipush (v := 24) hx hb d_L_init_13.1 (by decide) ?_
  refine va_newa (atype := .int) (ty := .int) (N' := 24) (a0 := (24, .inl (fun _ => 0))) hx hb (hts (.arrayClass .int) (xj_mem 37 (by decide +kernel) (by decide +kernel))) rfl hK hP hD hS hA (fun _ => vp_cell_i _ _ _) (by decide +kernel) (by decide +kernel) (by decide +kernel) (show 2 ≤ 4 by decide) (show 48 ≤ 96 by decide) d_L_init_15.1 (fun q15 k15 H hK hP hD hS => ?_)
  have hP : va_P (dC, dI) xt_C [(h0, .inr (1, [.ref q7, .null, .null, .null, .int 0])), (q7, .inl (k7, 24, .inl (fun _ => 0))), (q15, .inl (k15, 24, .inl (fun _ => 0)))] H := hP
  have hD : va_D A [(h0, .inr (1, [.ref q7, .null, .null, .null, .int 0])), (q7, .inl (k7, 24, .inl (fun _ => 0))), (q15, .inl (k15, 24, .inl (fun _ => 0)))] := hD
  have hK : va_K (dC, dI) xt_C [(k7, .int), (k15, .int)] s := hK
  refine W.widen (k := 2) (n := 48) (by decide) (by decide) ?_
  refine va_putF (D := (dC, dI)) (ci := 1) (v := .ref q15) (ty := .array .int) (C := RL) (T := FL) (N := 5) hx hb hts xt_inL TL xt_tyL xt_nmL hown hK hP hD hS 0 rfl rfl 1 (by decide) (hts (.fieldLink RL 15 "LockstepField$Log" "units" "[I") (xj_mem 46 (by decide +kernel) (by decide +kernel))) (fun _ h9 => h9) rfl hin rfl (by decide +kernel) rfl rfl (Nat.le_of_ble_eq_true rfl) d_L_init_17.1 (fun H locs hP hD hS => ?_)
  have hP : va_P (dC, dI) xt_C [(h0, .inr (1, [.ref q7, .ref q15, .null, .null, .int 0])), (q7, .inl (k7, 24, .inl (fun _ => 0))), (q15, .inl (k15, 24, .inl (fun _ => 0)))] H := hP
  have hD : va_D A [(h0, .inr (1, [.ref q7, .ref q15, .null, .null, .int 0])), (q7, .inl (k7, 24, .inl (fun _ => 0))), (q15, .inl (k15, 24, .inl (fun _ => 0)))] := hD
  refine lv_aload_n hx hb d_L_init_20.1 rfl (lv_at hl 0 rfl) ?_
  refine lv_bipush (v := 24) hx hb d_L_init_21.1 (by decide) ?_
  refine va_newa (atype := .int) (ty := .int) (N' := 24) (a0 := (24, .inl (fun _ => 0))) hx hb (hts (.arrayClass .int) (xj_mem 37 (by decide +kernel) (by decide +kernel))) rfl hK hP hD hS hA (fun _ => vp_cell_i _ _ _) (by decide +kernel) (by decide +kernel) (by decide +kernel) (show 3 ≤ 4 by decide) (show 72 ≤ 96 by decide) d_L_init_23.1 (fun q23 k23 H hK hP hD hS => ?_)
  have hP : va_P (dC, dI) xt_C [(h0, .inr (1, [.ref q7, .ref q15, .null, .null, .int 0])), (q7, .inl (k7, 24, .inl (fun _ => 0))), (q15, .inl (k15, 24, .inl (fun _ => 0))), (q23, .inl (k23, 24, .inl (fun _ => 0)))] H := hP
  have hD : va_D A [(h0, .inr (1, [.ref q7, .ref q15, .null, .null, .int 0])), (q7, .inl (k7, 24, .inl (fun _ => 0))), (q15, .inl (k15, 24, .inl (fun _ => 0))), (q23, .inl (k23, 24, .inl (fun _ => 0)))] := hD
  have hK : va_K (dC, dI) xt_C [(k7, .int), (k15, .int), (k23, .int)] s := hK
  refine W.widen (k := 3) (n := 72) (by decide) (by decide) ?_
  refine va_putF (D := (dC, dI)) (ci := 1) (v := .ref q23) (ty := .array .int) (C := RL) (T := FL) (N := 5) hx hb hts xt_inL TL xt_tyL xt_nmL hown hK hP hD hS 0 rfl rfl 2 (by decide) (hts (.fieldLink RL 18 "LockstepField$Log" "kinds" "[I") (xj_mem 48 (by decide +kernel) (by decide +kernel))) (fun _ h9 => h9) rfl hin rfl (by decide +kernel) rfl rfl (Nat.le_of_ble_eq_true rfl) d_L_init_25.1 (fun H locs hP hD hS => ?_)
  have hP : va_P (dC, dI) xt_C [(h0, .inr (1, [.ref q7, .ref q15, .ref q23, .null, .int 0])), (q7, .inl (k7, 24, .inl (fun _ => 0))), (q15, .inl (k15, 24, .inl (fun _ => 0))), (q23, .inl (k23, 24, .inl (fun _ => 0)))] H := hP
  have hD : va_D A [(h0, .inr (1, [.ref q7, .ref q15, .ref q23, .null, .int 0])), (q7, .inl (k7, 24, .inl (fun _ => 0))), (q15, .inl (k15, 24, .inl (fun _ => 0))), (q23, .inl (k23, 24, .inl (fun _ => 0)))] := hD
  refine lv_aload_n hx hb d_L_init_28.1 rfl (lv_at hl 0 rfl) ?_
  refine lv_bipush (v := 24) hx hb d_L_init_29.1 (by decide) ?_
  refine va_newa (atype := .int) (ty := .int) (N' := 24) (a0 := (24, .inl (fun _ => 0))) hx hb (hts (.arrayClass .int) (xj_mem 37 (by decide +kernel) (by decide +kernel))) rfl hK hP hD hS hA (fun _ => vp_cell_i _ _ _) (by decide +kernel) (by decide +kernel) (by decide +kernel) (show 4 ≤ 4 by decide) (show 96 ≤ 96 by decide) d_L_init_31.1 (fun q31 k31 H hK hP hD hS => ?_)
  have hP : va_P (dC, dI) xt_C [(h0, .inr (1, [.ref q7, .ref q15, .ref q23, .null, .int 0])), (q7, .inl (k7, 24, .inl (fun _ => 0))), (q15, .inl (k15, 24, .inl (fun _ => 0))), (q23, .inl (k23, 24, .inl (fun _ => 0))), (q31, .inl (k31, 24, .inl (fun _ => 0)))] H := hP
  have hD : va_D A [(h0, .inr (1, [.ref q7, .ref q15, .ref q23, .null, .int 0])), (q7, .inl (k7, 24, .inl (fun _ => 0))), (q15, .inl (k15, 24, .inl (fun _ => 0))), (q23, .inl (k23, 24, .inl (fun _ => 0))), (q31, .inl (k31, 24, .inl (fun _ => 0)))] := hD
  have hK : va_K (dC, dI) xt_C [(k7, .int), (k15, .int), (k23, .int), (k31, .int)] s := hK
  refine W.widen (k := 4) (n := 96) (by decide) (by decide) ?_
  refine va_putF (D := (dC, dI)) (ci := 1) (v := .ref q31) (ty := .array .int) (C := RL) (T := FL) (N := 5) hx hb hts xt_inL TL xt_tyL xt_nmL hown hK hP hD hS 0 rfl rfl 3 (by decide) (hts (.fieldLink RL 21 "LockstepField$Log" "aims" "[I") (xj_mem 50 (by decide +kernel) (by decide +kernel))) (fun _ h9 => h9) rfl hin rfl (by decide +kernel) rfl rfl (Nat.le_of_ble_eq_true rfl) d_L_init_33.1 (fun H locs hP hD hS => ?_)
  have hP : va_P (dC, dI) xt_C [(h0, .inr (1, [.ref q7, .ref q15, .ref q23, .ref q31, .int 0])), (q7, .inl (k7, 24, .inl (fun _ => 0))), (q15, .inl (k15, 24, .inl (fun _ => 0))), (q23, .inl (k23, 24, .inl (fun _ => 0))), (q31, .inl (k31, 24, .inl (fun _ => 0)))] H := hP
  have hD : va_D A [(h0, .inr (1, [.ref q7, .ref q15, .ref q23, .ref q31, .int 0])), (q7, .inl (k7, 24, .inl (fun _ => 0))), (q15, .inl (k15, 24, .inl (fun _ => 0))), (q23, .inl (k23, 24, .inl (fun _ => 0))), (q31, .inl (k31, 24, .inl (fun _ => 0)))] := hD
  exact W.vret hx hb hr (fun t ht hW => ⟨⟨(fun k => match k with | 0 => q7 | 1 => q15 | 2 => q23 | _ => q31, fun k => match k with | 0 => k7 | 1 => k15 | 2 => k23 | _ => k31), rfl, trivial, by rw [ht]; exact hP, va_K.moved hW.alike hK, hD⟩, hS.F ht⟩) hS.2.2 d_L_init_36.1
