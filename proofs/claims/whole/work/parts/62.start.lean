/-! THE START: both objects are made, then the loop -/
theorem xc_R_new : xc_R am_new xk_zero := by
  refine ⟨fun t _ => xb_zero t, rfl, rfl, fun i hi => absurd hi (Nat.not_lt_zero _), ⟨rfl, fun e he => absurd he (Nat.not_lt_zero _)⟩, ⟨rfl, fun u hu => absurd hu (Nat.not_lt_zero _)⟩, rfl, fun p _ u hu => absurd hu (Nat.not_lt_zero _)⟩
theorem xm_R_new : xm_R am_new xk_zero := by
  refine ⟨fun t _ => rfl, rfl, rfl, fun i hi => absurd hi (Nat.not_lt_zero _), ⟨rfl, fun e he => absurd he (Nat.not_lt_zero _)⟩, ⟨rfl, fun u hu => absurd hu (Nat.not_lt_zero _)⟩, fun u hu => absurd hu (Nat.not_lt_zero _), fun _ u _ _ => ⟨rfl, rfl, rfl, rfl⟩⟩
theorem xl_known {s : State} {args : Array Value} (hts : ∀ w ∈ xt_T, w.before args s = true) : ∃ (dC : Nat → ClassId) (dI : Nat → Nat → Nat), va_K (dC, dI) xt_C [] s := by
  obtain ⟨c0, i0, h0⟩ := u_known hts xt_inG (hts (.instantiable RG 4) (xj_mem 19 (by decide +kernel) (by decide +kernel)))
  obtain ⟨c1, i1, h1⟩ := u_known hts xt_inL (hts (.instantiable RL 5) (xj_mem 39 (by decide +kernel) (by decide +kernel)))
  obtain ⟨c2, i2, h2⟩ := u_known hts xt_inP (hts (.instantiable RP 4) (xj_mem 67 (by decide +kernel) (by decide +kernel)))
  obtain ⟨c3, i3, h3⟩ := u_known hts xt_inU (hts (.instantiable RU 11) (xj_mem 74 (by decide +kernel) (by decide +kernel)))
  obtain ⟨c4, i4, h4⟩ := u_known hts xt_inF (hts (.instantiable RF 7) (xj_mem 11 (by decide +kernel) (by decide +kernel)))
  obtain ⟨c5, i5, h5⟩ := u_known hts xt_inM (hts (.instantiable RM 30) (xj_mem 410 (by decide +kernel) (by decide +kernel)))
  refine ⟨fun k => match k with | 0 => c0 | 1 => c1 | 2 => c2 | 3 => c3 | 4 => c4 | _ => c5, fun k => match k with | 0 => i0 | 1 => i1 | 2 => i2 | 3 => i3 | 4 => i4 | _ => i5, fun c q hq => ?_, fun k q hk => absurd hk (by simp)⟩
  have hc : c < 6 := (List.getElem?_eq_some_iff.mp hq).1
  rcases (show c = 0 ∨ c = 1 ∨ c = 2 ∨ c = 3 ∨ c = 4 ∨ c = 5 by omega) with rfl | rfl | rfl | rfl | rfl | rfl
  · have e := Option.some.inj hq; subst e; exact h0
  · have e := Option.some.inj hq; subst e; exact h1
  · have e := Option.some.inj hq; subst e; exact h2
  · have e := Option.some.inj hq; subst e; exact h3
  · have e := Option.some.inj hq; subst e; exact h4
  · have e := Option.some.inj hq; subst e; exact h5
theorem xl_KKs {w : xk_w} {s t : State} (hvm : s.vm.Alike t.vm) (h : xk_KK w t) (hN : ∀ v ∈ xk_wN w, xk_nw v = true ∧ va_Nw v s) : xk_KK w s := ⟨va_K.moved hvm.symm h.1, fun k kd n hk => ⟨arrOfT_moved hvm.symm (h.2.1 k kd n hk).1, (h.2.1 k kd n hk).2.moved hvm.symm⟩, hN⟩
theorem xl_join {A A1 : Nat → Prop} {D : va_G} {cl : List vw_C} {w1 w2 w3 : va_W} {H H1 : Heap} (hP : va_P D cl (w1 ++ w2) H) (hD : va_D A (w1 ++ w2)) (hA1 : ∀ q, A1 q ↔ va_A w2 H.size q) (hk : ∀ q : Nat, q < H.size → ¬ A1 q → H1[q]? = H[q]?) (hF : ∀ q, A1 q → A q) (hP1 : va_P D cl w3 H1) (hD1 : va_D A1 w3) : va_P D cl (w1 ++ w3) H1 ∧ va_D A (w1 ++ w3) := by
  have ap : ∀ (k : Nat) (q : Nat × va_E), w1[k]? = some q → q.1 < H.size ∧ ¬ A1 q.1 := fun k q hq => by
    have hl := ((xl_PL hP) k q hq).lt
    refine ⟨hl, fun z => ?_⟩
    rcases (hA1 _).mp z with ⟨k2, e, h2⟩ | h2
    · exact xl_apart hD hq h2 rfl
    · omega
  refine ⟨va_P.app ((xl_PL hP).kept (fun k q hq => hk q.1 (ap k q hq).1 (ap k q hq).2)) hP1, va_D.app (xl_DL hD) (hD1.weaken (fun k q _ h => hF q.1 h)) (fun i j x y hx hy hxy => ?_)⟩
  exact (ap i x hx).2 (by rw [hxy]; exact hD1.2 j y hy)
set_option maxHeartbeats 4000000 in
set_option maxRecDepth 100000 in
theorem whole_start {p : Program} {e : Env} {s : State} {m : MethodId} {below : List Frame} {meth : Method} {c : Code} (l : Launch) {b L : Nat} {xs : Nat → Int32} (hL : L ≤ 2560) (C0 : lw_At p s m meth c b L xs) : W p l e room_1 s m #[Value.ref b] below meth c s.heap [] 0 0 (lw_Z below #[Value.ref b] s) (entryFrame m ([Value.ref b] : List Value).toArray 4) := by
  obtain ⟨hx, hb, hr, hml, hown, hts, hX, hbl, hlocks, -⟩ := C0
  have htT : ∀ w ∈ xt_T, w.before #[Value.ref b] s = true := fun w hw => hts w (List.mem_filter.mp hw).1
  have hN : xd_N s := ⟨fun v hv => ⟨(List.mem_filter.mp hv).2, va_Nw.of (xk_nw_tab (List.mem_filter.mp hv).2) (hts v (List.mem_filter.mp hv).1)⟩, va_AO.of (hts (.arrayOver (.object RU)) (List.mem_append_right _ (List.mem_of_getElem? (i := 73) (by decide +kernel))))⟩
  obtain ⟨dC, dI, hK⟩ := xl_known htT
  obtain ⟨A, hAd⟩ : ∃ A : Nat → Prop, A = fun q => s.heap.size ≤ q := ⟨_, rfl⟩
  have hA : ∀ q : Nat, s.heap.size ≤ q → A q := fun q h => by rw [hAd]; exact h
  have hS : va_S A s.heap s.heap [] := va_S.rf
  have hP : va_P (dC, dI) xt_C [] s.heap := fun k q hk => absurd hk (by simp)
  have hD : va_D A [] := ⟨fun i j p q hi => absurd hi (by simp), fun k q hk => absurd hk (by simp)⟩
  have hl := lv_entry ([Value.ref b]) (n := 4) (Nat.le_of_ble_eq_true rfl)
  rw [lg_entry_eq]
  generalize (lg_sl ([Value.ref b]) ++ List.replicate (4 - (lg_sl ([Value.ref b])).length) Slot.unset).toArray = ls at hl ⊢
  have hl : lv_has ls 4 [(0, .ref b)] := hl
  refine va_new (ci := 4) (fs := [.null, .null, .null, .null, .null, .int 0, .int 0]) (C := RF) (T := FF) (N := 7) hx hb htT xt_inF TF xt_tyF hown (htT (.classLink R_law 7 RF) (xj_mem 10 (by decide +kernel) (by decide +kernel))) (htT (.instantiable RF 7) (xj_mem 11 (by decide +kernel) (by decide +kernel))) (htT (.initialized RF) (xj_mem 1 (by decide +kernel) (by decide +kernel))) hK hP hD hS hA rfl (fun j hj => by rcases (show j = 0 ∨ j = 1 ∨ j = 2 ∨ j = 3 ∨ j = 4 ∨ j = 5 ∨ j = 6 by omega) with rfl | rfl | rfl | rfl | rfl | rfl | rfl <;> rfl) (show 1 ≤ 600000 by decide) (show 7 ≤ 7302250 by decide) d_W_law_0.1 (fun q0 H hP hD hS => ?_)
  have hP : va_P (dC, dI) xt_C [(q0, .inr (4, [.null, .null, .null, .null, .null, .int 0, .int 0]))] H := hP
  have hD : va_D A [(q0, .inr (4, [.null, .null, .null, .null, .null, .int 0, .int 0]))] := hD
  refine W.widen (k := 1) (n := 7) (by decide) (by decide) ?_
  refine lv_dup hx hb d_W_law_3.1 rfl ?_
  have hPc := hP
  have hDc := hD
  have hFc := va_free (wc := [(q0, .inr (4, [.null, .null, .null, .null, .null, .int 0, .int 0]))]) hD hS hA [0] rfl
  refine va_callv (va_runI (As := []) (rest := [.ref q0]) ⟨hx, hb, hml, hown, htT⟩ (k_F_init l dC dI q0 H.size) ⟨callB_of 0 htT (xd_good (y := y_F_init) (xj_mem 14 (by decide +kernel) (by decide +kernel))) rfl rfl rfl (htT (.initialized RF) (xj_mem 1 (by decide +kernel) (by decide +kernel))) (htT (.methodLink R_law 9 y_F_init.1) (xj_mem 12 (by decide +kernel) (by decide +kernel))) ⟨by decide +kernel, by decide +kernel, by decide +kernel⟩ ⟨Nat.le_of_ble_eq_true rfl, Nat.le_of_ble_eq_true rfl⟩, rfl, htT (.instanceMethod y_F_init.1) (xj_mem 13 (by decide +kernel) (by decide +kernel))⟩ ⟨fun a U g mk q => by obtain ⟨q0, q1, qP, qK, qD, qN⟩ := q; exact ⟨q0, q1, qP, va_K.moved (u := U) (U := U.calling g mk a) (Vm.Alike.refl U.vm) qK, qD, xd_N.same (u := U) (U := U.calling g mk a) rfl qN⟩, fun U hU hW => ⟨rfl, by rw [hU], by rw [hU]; exact hPc, va_K.moved hW.alike hK, hDc.weaken (fun _ _ _ _ => trivial), hN.moved hW⟩⟩ rfl rfl hl.1 rfl (lv_room (Nat.le_of_ble_eq_true rfl)) d_W_law_4.1 ⟨show 49 ≤ 600000 by decide, show 1744 ≤ 7302250 by decide⟩) hS (fun q _ h => hFc q h) hFc (fun u t H1 locs ht hvm h9 hB hz1 hk1 hS => ?_)
  obtain ⟨hP1, hK1, hD1⟩ := hB
  rw [ht] at hP1
  have hKc := xl_KKs hvm hK1 hN.1
  obtain ⟨gc, hgc⟩ : ∃ gc : xk_G, gc = (fun k => if k = 0 then q0 else u.1 k, u.2) := ⟨_, rfl⟩
  have hg0 : gc.1 0 = q0 := by rw [hgc]; rfl
  rw [← hgc] at hP1 hD1 hKc
  obtain ⟨hP, hD⟩ := xl_join (w1 := []) (w2 := [(q0, .inr (4, [.null, .null, .null, .null, .null, .int 0, .int 0]))]) hP hD (fun q => Iff.rfl) hk1 hFc hP1 hD1
  generalize H1 = H at hP hS ⊢
  have hP : va_P (dC, dI) xt_C (xk_wl xc_S gc xk_zero) H := hP
  have hD : va_D A (xk_wl xc_S gc xk_zero) := hD
  refine W.widen (k := 49) (n := 1744) (by decide) (by decide) ?_
  refine lv_astore_n hx hb d_W_law_7.1 rfl hl (by decide) (lv' := [(1, .ref q0), (0, .ref b)]) rfl (fun ls hl => ?_)
  obtain ⟨wC, hwC⟩ : ∃ wC : va_W, wC = xk_wl xc_S gc xk_zero := ⟨_, rfl⟩
  rw [← hwC] at hP hD
  refine va_new (ci := 5) (fs := [.null, .int 0, .null, .null, .int 0, .int 0, .null, .int 0, .null, .null, .null, .null, .null, .null, .null, .null, .null, .null, .null, .null, .null, .null, .null, .null, .null, .null, .null, .null, .null, .null]) (C := RM) (T := FM) (N := 30) hx hb htT xt_inM TM xt_tyM hown (htT (.classLink R_law 10 RM) (xj_mem 409 (by decide +kernel) (by decide +kernel))) (htT (.instantiable RM 30) (xj_mem 410 (by decide +kernel) (by decide +kernel))) (htT (.initialized RM) (xj_mem 6 (by decide +kernel) (by decide +kernel))) hK hP hD hS hA rfl (fun j hj => by rcases (show j = 0 ∨ j = 1 ∨ j = 2 ∨ j = 3 ∨ j = 4 ∨ j = 5 ∨ j = 6 ∨ j = 7 ∨ j = 8 ∨ j = 9 ∨ j = 10 ∨ j = 11 ∨ j = 12 ∨ j = 13 ∨ j = 14 ∨ j = 15 ∨ j = 16 ∨ j = 17 ∨ j = 18 ∨ j = 19 ∨ j = 20 ∨ j = 21 ∨ j = 22 ∨ j = 23 ∨ j = 24 ∨ j = 25 ∨ j = 26 ∨ j = 27 ∨ j = 28 ∨ j = 29 by omega) with rfl | rfl | rfl | rfl | rfl | rfl | rfl | rfl | rfl | rfl | rfl | rfl | rfl | rfl | rfl | rfl | rfl | rfl | rfl | rfl | rfl | rfl | rfl | rfl | rfl | rfl | rfl | rfl | rfl | rfl <;> rfl) (show 50 ≤ 600000 by decide) (show 1774 ≤ 7302250 by decide) d_W_law_8.1 (fun q8 H hP hD hS => ?_)
  refine W.widen (k := 50) (n := 1774) (by decide) (by decide) ?_
  refine lv_dup hx hb d_W_law_11.1 rfl ?_
  have hPc : va_P (dC, dI) xt_C [(q8, .inr (5, [.null, .int 0, .null, .null, .int 0, .int 0, .null, .int 0, .null, .null, .null, .null, .null, .null, .null, .null, .null, .null, .null, .null, .null, .null, .null, .null, .null, .null, .null, .null, .null, .null]))] H := xl_PR hP
  have hDc : va_D A [(q8, .inr (5, [.null, .int 0, .null, .null, .int 0, .int 0, .null, .int 0, .null, .null, .null, .null, .null, .null, .null, .null, .null, .null, .null, .null, .null, .null, .null, .null, .null, .null, .null, .null, .null, .null]))] := xl_DR hD
  have hFc := va_free (wc := [(q8, .inr (5, [.null, .int 0, .null, .null, .int 0, .int 0, .null, .int 0, .null, .null, .null, .null, .null, .null, .null, .null, .null, .null, .null, .null, .null, .null, .null, .null, .null, .null, .null, .null, .null, .null]))]) hDc hS hA [0] rfl
  refine va_callv (va_runI (As := []) (rest := [.ref q8]) ⟨hx, hb, hml, hown, htT⟩ (k_M_init l dC dI q8 H.size) ⟨callB_of 0 htT (xd_good (y := y_M_init) (xj_mem 413 (by decide +kernel) (by decide +kernel))) rfl rfl rfl (htT (.initialized RM) (xj_mem 6 (by decide +kernel) (by decide +kernel))) (htT (.methodLink R_law 12 y_M_init.1) (xj_mem 411 (by decide +kernel) (by decide +kernel))) ⟨by decide +kernel, by decide +kernel, by decide +kernel⟩ ⟨Nat.le_of_ble_eq_true rfl, Nat.le_of_ble_eq_true rfl⟩, rfl, htT (.instanceMethod y_M_init.1) (xj_mem 412 (by decide +kernel) (by decide +kernel))⟩ ⟨fun a U g mk q => by obtain ⟨q0, q1, qP, qK, qD, qN⟩ := q; exact ⟨q0, q1, qP, va_K.moved (u := U) (U := U.calling g mk a) (Vm.Alike.refl U.vm) qK, qD, xd_N.same (u := U) (U := U.calling g mk a) rfl qN⟩, fun U hU hW => ⟨rfl, by rw [hU], by rw [hU]; exact hPc, va_K.moved hW.alike hK, hDc.weaken (fun _ _ _ _ => trivial), hN.moved hW⟩⟩ rfl rfl hl.1 rfl (lv_room (Nat.le_of_ble_eq_true rfl)) d_W_law_12.1 ⟨show 76 ≤ 600000 by decide, show 3470 ≤ 7302250 by decide⟩) hS (fun q _ h => hFc q h) hFc (fun u2 t H1 locs ht hvm h9 hB hz1 hk1 hS => ?_)
  obtain ⟨hP1, hK1, hD1⟩ := hB
  rw [ht] at hP1
  have hKm := xl_KKs hvm hK1 hN.1
  obtain ⟨gm, hgm⟩ : ∃ gm : xk_G, gm = (fun k => if k = 0 then q8 else u2.1 k, u2.2) := ⟨_, rfl⟩
  have hg8 : gm.1 0 = q8 := by rw [hgm]; rfl
  rw [← hgm] at hP1 hD1 hKm
  obtain ⟨hP, hD⟩ := xl_join (w1 := wC) (w2 := [(q8, .inr (5, [.null, .int 0, .null, .null, .int 0, .int 0, .null, .int 0, .null, .null, .null, .null, .null, .null, .null, .null, .null, .null, .null, .null, .null, .null, .null, .null, .null, .null, .null, .null, .null, .null]))]) hP hD (fun q => Iff.rfl) hk1 hFc hP1 hD1
  generalize H1 = H at hP hS ⊢
  refine lv_astore_n hx hb d_W_law_15.1 rfl hl (by decide) (lv' := [(2, .ref q8), (1, .ref q0), (0, .ref b)]) rfl (fun ls hl => ?_)
  refine lv_iconst (v := 0) hx hb d_W_law_16.1 (by decide) ?_
  refine lv_istore_n hx hb d_W_law_17.1 rfl hl (by decide) (lv' := [(3, .int 0), (2, .ref q8), (1, .ref q0), (0, .ref b)]) rfl (fun ls hl => ?_)
  refine W.widen (k := 600000) (n := 7302250) (by decide) (by decide) ?_
  rw [hwC] at hP hD
  have hH : xl_H (p, l, e, room_1, s, m, #[Value.ref b], below, meth, c, A, 600000, 7302250, lw_Z below #[Value.ref b] s) (dC, dI) gc gm b L xs := ⟨⟨hx, hb, hml, hown, htT⟩, hKc, hKm, rfl, ⟨rfl, rfl⟩, hAd, hX, hbl⟩
  have X := xl_loop hH (by omega) (fun σ ρ v => ?_) 514 0 am_new xk_zero xk_zero (by omega) (by omega) xc_R_new xm_R_new am_ok_new
  · rw [hg0, hg8] at X
    exact X H _ ls hP hD hS (hml.symm ▸ lv_sub hl [3, 2, 1, 0] rfl)
  · intro H locs ls hP hD hS hl
    refine va_forget (fun q hq => by have h9 := hS.2.2 q hq; rw [hAd] at h9; exact h9) ?_
    refine lv_iconst (v := 1) hx hb d_W_law_505.1 (by decide) ?_
    exact lw_ret hx hb hr hlocks d_W_law_506.1
-- ===== YOUR PART ENDS =====
set_option maxHeartbeats 4000000 in
theorem lw_walk (l : Launch) (b : Addr) (xs : List Int32) : MetFree l x (headSpec (Jvm.Cond.code x code maxLocals ret :: tables_1) room_1) (lw_P b xs) (fun _ _ _ _ _ => True) lw_Q := by
  refine MetFree.of_bodyS (code := code) (maxLocals := maxLocals) (ret := ret) (by decide) ?_ ?_
  · intro args s m h hn
    obtain ⟨meth, c, h1, h2, h3, h4, h5, h6, -, -⟩ := Cond.code_spec hn (atoms_spec (ws := Jvm.Cond.code x code maxLocals ret :: tables_1) h _ List.mem_cons_self)
    exact ⟨meth, c, h1, h2, h3, h4, h5, h6⟩
  · intro p e s m args below meth c s₁ B hml0 hP _
    obtain ⟨rfl, hx, hbd, hgv⟩ := hP
    obtain ⟨scr, harrAt, hlist, hof, hsmall⟩ := hx
    obtain ⟨hcb, hkn, -, -⟩ := State.arrayAt?_spec harrAt
    have hown : s.vm.findClass R_law = some m.cls := findClass_of_methodNamed B.named
    have hts0 : ∀ c ∈ (Jvm.Cond.code x code maxLocals ret :: tables_1), c.before #[Value.ref b] s = true := atoms_spec (ws := Jvm.Cond.code x code maxLocals ret :: tables_1) B.pre
    have hts : ∀ w ∈ lw_tbl, w.before #[Value.ref b] s = true := k2_hts_sels lw_privs (fun w hw => hts0 w (List.mem_cons_of_mem _ hw)) lw_privs_ok
    have hml : c.maxLocals = 4 := B.maxLocals_eq (hts0 _ List.mem_cons_self)
    have X₀ : Stand p l e room_1 s m #[Value.ref b] below meth c s₁ [] 0 0 := Stand.of_body B
    have hh0 : s₁.heap = s.heap := by rw [B.state]; rfl
    have hsz : scr.slots.size = xs.length := by rw [← Array.length_toList, hlist, List.length_map]
    have hval : ∀ j : Nat, j < xs.length → scr.slots[j]? = some (.int (xs.getD j 0)) := fun j hj => by
      rw [← Array.getElem?_toList, hlist]
      simp [hj]
    have hbl : b < s.heap.size := (Array.getElem?_eq_some_iff.mp hcb).1
    have hX : va_X b xs.length (fun j => xs.getD j 0) s s.heap := ⟨scr, hcb, hof, hkn, hsz, hval⟩
    have K : W p l e room_1 s m #[Value.ref b] below meth c s₁.heap [] 0 0 (lw_Z below #[Value.ref b] s) (entryFrame m ([Value.ref b] : List Value).toArray 4) := by
      rw [hh0]
      exact whole_start l hbd ⟨B.exec, B.bytes, B.returns, hml, hown, hts, hX, hbl, B.notSynchronized, hgv⟩
    obtain ⟨t, a1, o, b1, b2, b3⟩ := K s₁ rfl X₀
    exact ⟨t, o, a1, b1, b2, b3⟩
theorem lw_pre_spec {args : Array Value} {s : State} (h : (Jvm.Cond.and given_1 narrow_1).before args s = true) (hr : rest_1_c.before args s = true) : ∃ (b : Addr) (xs : List Int32), lw_P b xs args s := by
  have hs := flat_of_before _ h
  have hq := flat_of_before _ hr
  have hc : (Cond.count 1).before args s = true := hs _ (by decide +kernel)
  have harr : (Cond.arrayOf (.arg 0) .int).before args s = true := hs _ (by decide +kernel)
  have hle : (Cond.le (.length (.arg 0)) (.int 2560)).before args s = true := hs _ (by decide +kernel)
  have hlen : (Cond.isInt (.length (.arg 0))).before args s = true := hq _ (by decide +kernel)
  have hall : (Cond.all (.arg 0) (.isInt (.elem (.arg 0) (.index 0)))).before args s = true := hq _ (by decide +kernel)
  obtain ⟨b, xs, hb, hx⟩ := State.ints_of_pre rfl harr hlen hall
  have hsm : xs.length < 2 ^ 31 := hx.choose_spec.2.2.2
  have hev : (Term.length (.arg 0)).eval args s none [] s = some (.int xs.length.toInt32) := hx.length_eval hb
  have hv := Cond.le_ints hev (show (Term.int 2560).eval args s none [] s = some (.int 2560) from rfl)
  have hd : xs.length.toInt32 ≤ 2560 := by
    simpa [Cond.before, Cond.holds, hv] using hle
  have hN : xs.length ≤ 2560 := (Int32.ofNat_le_ofNat hsm (by decide)).mp (show Int32.ofNat xs.length ≤ Int32.ofNat 2560 from hd)
  exact ⟨b, xs, Cond.one_arg hc (show args[0]? = some (.ref b) from hb), hx, hN, h⟩
theorem lw_comes (l : Launch) : Comes l x (Jvm.Cond.code x code maxLocals ret :: tables_1) room_1 (fun tb e args s => Calls_1 tb e args s ∧ rest_1 tb e args s ∧ Pre_1 tb e args s)
    (fun _ _ args s o t => lw_Q args s o t) := by
  intro p e ha hc hk s m args below hf hfit hheap happ hpre
  obtain ⟨b, xs, hP⟩ := lw_pre_spec hpre.2.2 hpre.2.1
  obtain ⟨k, o, h1, h2, h3, hQ⟩ := lw_walk l b xs p e ha hc hk s m args below hf ((Spec.applies_iff_loose hf).mp happ).1 hP trivial
  exact ⟨k, o, h1, h2, h3, hQ⟩
theorem lw_frame {s t : State} {o : Outcome} {args : Array Value} (h : Framed s o t [] 600000 7302250) :
    Framed s o t (fieldLocs frame_1_writes args s ++ arrayLocs frame_1_arrays args s ++ staticLocs frame_1_statics s) 600000 7302250 := h
theorem lw_limb (L : Cond) (hL : ∀ (args : Array Value) (s t : State), L.after args s (.returned (some (.int 1))) t = true) :
    ArmFor flags0 classFile x code maxLocals ret World_1 tables_1 room_1 Calls_1 rest_1 Pre_1
      (fun tb e a s o t => postC L tb e a s o t ∧ Framed s o t (fieldLocs frame_1_writes a s ++ arrayLocs frame_1_arrays a s ++ staticLocs frame_1_statics s) 600000 7302250) := by
  intro l _ _ _ p e ha hc hk s m args below hf hfit hheap happ hpre
  obtain ⟨k, o, h1, h2, h3, rfl, hF⟩ := lw_comes l p e ha hc hk s m args below hf hfit hheap happ hpre
  exact ⟨k, _, h1, h2, h3, hL args s _, lw_frame hF⟩
theorem i_vc : Claimed_1_1 ∧ Claimed_1_2 := ⟨lw_limb limb_1_1 (fun args s t => by simp [limb_1_1, Cond.after, Cond.holds, Cond.value]), lw_limb limb_1_2 (fun args s t => Cond.after_iff.mpr (by
  first | (rw [show limb_1_2 = Cond.eq .result (.int 1) from rfl, Cond.eq_ints (x := 1) (y := 1) rfl rfl]; simp; done) | (simp [limb_1_2, Cond.value, Term.eval]; done)))⟩
