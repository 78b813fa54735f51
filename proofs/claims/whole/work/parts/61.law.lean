/-! THE LAW: its rules over both worlds, and its loop -/
abbrev xl_V (D : va_G) (gc gm : xk_G) : xk_V (xk_St × xk_St) := (D, xt_C, fun q => xk_ws (xc (D, gc)) q.1 ++ xk_ws (xm (D, gm)) q.2)
def xl_H (K : xk_K) (D : va_G) (gc gm : xk_G) (b L : Nat) (xs : Nat → Int32) : Prop := match K with
  | (p, _, _, R, s, m, args, _, _, c, A, cells, slots, _) => CallFix p m c code 4 s args xt_T R_law ∧ xk_KK (xc (D, gc)) s ∧ xk_KK (xm (D, gm)) s ∧ R = room_1 ∧ (cells = 600000 ∧ slots = 7302250) ∧ (A = fun q => s.heap.size ≤ q) ∧ va_X b L xs s s.heap ∧ b < s.heap.size
theorem xl_fst (g : xk_G) (σ τ : xk_St) : ∀ (l : List xk_Sh) (k : Nat), (xk_go g σ k l).map Prod.fst = (xk_go g τ k l).map Prod.fst
  | [], _ => rfl
  | sh :: r, k => by simp only [xk_go, List.map_cons, xl_fst g σ τ r (k + 1)]
theorem xl_D {A : Nat → Prop} {ws ws' : va_W} (h : ws.map Prod.fst = ws'.map Prod.fst) (hD : va_D A ws) : va_D A ws' := by
  have key : ∀ (k : Nat) (q : Nat × va_E), ws'[k]? = some q → ∃ q0, ws[k]? = some q0 ∧ q0.1 = q.1 := by
    intro k q hk
    have h1 : (ws'.map Prod.fst)[k]? = some q.1 := by rw [List.getElem?_map, hk]; rfl
    rw [← h, List.getElem?_map] at h1
    cases hw : ws[k]? with
    | none => rw [hw] at h1; cases h1
    | some q0 => rw [hw] at h1; exact ⟨q0, rfl, Option.some.inj h1⟩
  refine ⟨fun i j p q hi hj hpq => ?_, fun k q hk => ?_⟩
  · obtain ⟨p0, a1, a2⟩ := key i p hi
    obtain ⟨q0, b1, b2⟩ := key j q hj
    exact hD.1 i j p0 q0 a1 b1 (a2.trans (hpq.trans b2.symm))
  · obtain ⟨q0, a1, a2⟩ := key k q hk
    rw [← a2]
    exact hD.2 k q0 a1
theorem xl_DL {A : Nat → Prop} {w1 w2 : va_W} (h : va_D A (w1 ++ w2)) : va_D A w1 := by
  have e : ∀ (k : Nat) (q : Nat × va_E), w1[k]? = some q → (w1 ++ w2)[k]? = some q := fun k q hk => by
    rw [List.getElem?_append_left (List.getElem?_eq_some_iff.mp hk).1]; exact hk
  exact ⟨fun i j p q hi hj => h.1 i j p q (e i p hi) (e j q hj), fun k q hk => h.2 k q (e k q hk)⟩
theorem xl_DR {A : Nat → Prop} {w1 w2 : va_W} (h : va_D A (w1 ++ w2)) : va_D A w2 := by
  have e : ∀ (k : Nat) (q : Nat × va_E), w2[k]? = some q → (w1 ++ w2)[w1.length + k]? = some q := fun k q hk => by
    rw [List.getElem?_append_right (by omega), show w1.length + k - w1.length = k by omega]; exact hk
  exact ⟨fun i j p q hi hj hpq => by have := h.1 _ _ p q (e i p hi) (e j q hj) hpq; omega, fun k q hk => h.2 _ q (e k q hk)⟩
theorem xl_apart {A : Nat → Prop} {w1 w2 : va_W} (h : va_D A (w1 ++ w2)) {i j : Nat} {p q : Nat × va_E} (hi : w1[i]? = some p) (hj : w2[j]? = some q) : p.1 ≠ q.1 := by
  intro e
  have hl := (List.getElem?_eq_some_iff.mp hi).1
  have h1 : (w1 ++ w2)[i]? = some p := by rw [List.getElem?_append_left hl]; exact hi
  have h2 : (w1 ++ w2)[w1.length + j]? = some q := by rw [List.getElem?_append_right (by omega), show w1.length + j - w1.length = j by omega]; exact hj
  have := h.1 _ _ p q h1 h2 e
  omega
theorem xl_PL {D : va_G} {cl : List vw_C} {w1 w2 : va_W} {H : Heap} (h : va_P D cl (w1 ++ w2) H) : va_P D cl w1 H := fun k q hk => h k q (by rw [List.getElem?_append_left (List.getElem?_eq_some_iff.mp hk).1]; exact hk)
theorem xl_PR {D : va_G} {cl : List vw_C} {w1 w2 : va_W} {H : Heap} (h : va_P D cl (w1 ++ w2) H) : va_P D cl w2 H := fun k q hk => h (w1.length + k) q (by rw [List.getElem?_append_right (by omega), show w1.length + k - w1.length = k by omega]; exact hk)
section XLw
variable {K : xk_K} {D : va_G} {gc gm : xk_G} {b L : Nat} {xs : Nat → Int32} {σ ρ : xk_St} {pc pc' : Nat} {lv : List (Nat × Value)} {st : List Value}
theorem xl_E (hc : xl_H K D gc gm b L xs) : xk_E K code 4 := by
  obtain ⟨p, l, e, R, s, m, args, below, meth, c, A, cells, slots, Q⟩ := K
  exact ⟨hc.1.1, hc.1.2.1, hc.1.2.2.1⟩
theorem xl_sld {i : Nat} (hc : xl_H K D gc gm b L xs) (hi : i < L) (hL : L < 2 ^ 31) (hd : xk_d code pc .iaload 1 pc') (kk : xk_X K (xl_V D gc gm) (σ, ρ) pc' lv (.int (xs i) :: st)) : xk_X K (xl_V D gc gm) (σ, ρ) pc lv (.int (nI i) :: .ref b :: st) := by
  obtain ⟨p, l, e, R, s, m, args, below, meth, c, A, cells, slots, Q⟩ := K
  obtain ⟨hd, rfl⟩ := hd
  intro H locs ls hP hD hS h
  have hA := hc.2.2.2.2.2.1
  refine va_sld hc.1.1 hc.1.2.1 hc.2.2.2.2.2.2.1 hc.2.2.2.2.2.2.2 (by rw [hA]; exact Nat.not_le.mpr hc.2.2.2.2.2.2.2) hS (vp_in_nI hi hL) hd ?_
  rw [nI_clamp (Nat.lt_trans hi hL)]
  exact kk H locs ls hP hD hS h
theorem xl_slen (hc : xl_H K D gc gm b L xs) (hd : xk_d code pc .arraylength 1 pc') (kk : xk_X K (xl_V D gc gm) (σ, ρ) pc' lv (.int (nI L) :: st)) : xk_X K (xl_V D gc gm) (σ, ρ) pc lv (.ref b :: st) := by
  obtain ⟨p, l, e, R, s, m, args, below, meth, c, A, cells, slots, Q⟩ := K
  obtain ⟨hd, rfl⟩ := hd
  intro H locs ls hP hD hS h
  have hA := hc.2.2.2.2.2.1
  exact va_slen hc.1.1 hc.1.2.1 hc.2.2.2.2.2.2.1 hc.2.2.2.2.2.2.2 (by rw [hA]; exact Nat.not_le.mpr hc.2.2.2.2.2.2.2) hS hd (kk H locs ls hP hD hS h)
theorem xl_callL {y : xk_Y} {d n idx : Nat} {As : List Value} {Pq : Int32 → xk_St → Prop} (hc : xl_H K D gc gm b L xs) (hy : xk_CY (xc (D, gc)) y n) (hcls : y.1.cls = RF) (hlink : Cond.methodLink R_law idx y.1 ∈ xt_T) (hin : Cond.instanceMethod y.1 ∈ xt_T) (hsel : Cond.selects y.1.cls y.1 y.1 ∈ xt_T) (hM : xk_M (xc (D, gc)) d y (.ref (gc.1 0) :: As) σ (xk_pi Pq)) (hd1 : d + 1 ≤ 9) (hd2 : 8 + (y.2.2.1 + 11) + 40 * d ≤ 336) (hn : As.length = n) (hst : (st.map fun v => v.category).sum ≤ 8) (hd : xk_d code pc (.invokevirtual idx) 3 pc') (kk : ∀ (r : Int32) (τ : xk_St), Pq r τ → xk_X K (xl_V D gc gm) (τ, ρ) pc' lv (.int r :: st)) : xk_X K (xl_V D gc gm) (σ, ρ) pc lv (As.reverse ++ .ref (gc.1 0) :: st) := by
  obtain ⟨p, l, e, R, s, m, args, below, meth, c, A, cells, slots, Q⟩ := K
  obtain ⟨hd, rfl⟩ := hd
  intro H locs ls hP hD hS h
  have hA := hc.2.2.2.2.2.1
  have hR := hc.2.2.2.1
  obtain ⟨hcl0, hsl0⟩ := hc.2.2.2.2.1
  have hAq : ∀ q, s.heap.size ≤ q → A q := fun q h => by rw [hA]; exact h
  have hPc : va_P D xt_C (xk_ws (xc (D, gc)) σ) H := xl_PL hP
  have hDc : va_D A (xk_ws (xc (D, gc)) σ) := xl_DL hD
  have hF := xk_sub (w := xc (D, gc)) hDc hS hAq
  have hCB : CallB R s args R_law idx y.1 y.2.1 y.2.2.1 y.2.2.2 (Cond.code y.1 y.2.1 y.2.2.1 y.2.2.2 :: xt_T) (xk_rm d) 0 0 n := callB_of n hc.1.2.2.2.2 (xd_good hy.1) rfl rfl rfl (hc.1.2.2.2.2 _ hy.2.1) (hc.1.2.2.2.2 _ hlink) hy.2.2.1 ⟨by rw [hR]; exact hd1, by rw [hR]; exact hd2⟩
  have h00 := xk_wl_at (shp := xc_S) (g := gc) (σ := σ) (k := 0) rfl
  have hrec := va_recv (q := (RF, FF, 7)) hc.2.1.1 hPc (ci := 4) rfl h00
  refine xk_on (w := xc (D, gc)) (va_runV (C := y.1.cls) (As := As) (rest := st) ⟨hc.1.1, hc.1.2.1, rfl, hc.1.2.2.2.1, hc.1.2.2.2.2⟩ (hM l H.size) ⟨hCB, hc.1.2.2.2.2 _ hin, hc.1.2.2.2.2 _ hsel⟩ ⟨(xk_pre (w := xc (D, gc)) (args := .ref (gc.1 0) :: As) hc.2.1 hPc hDc).1, by rw [hcls]; exact hrec, (xk_pre (w := xc (D, gc)) (args := .ref (gc.1 0) :: As) hc.2.1 hPc hDc).2⟩ rfl hn h.1 rfl (lv_room hst) hd ⟨by rw [hcl0, hR]; exact Nat.le_refl _, by rw [hsl0, hR]; exact Nat.le_refl _⟩) hS (fun q _ h => hF q h) hF (fun v τ H1 locs1 hp hP1 hfr hS1 => ?_)
  obtain ⟨r, rfl, hp⟩ := hp
  exact kk r τ hp H1 locs1 ls (va_P.app hP1 ((xl_PR hP).kept (fun k q hk => hfr q.1 ((xl_PR hP) k q hk).lt (fun z => by
      rcases z with ⟨k2, hk2, e⟩ | z
      · exact xl_apart hD (xk_wl_at (g := gc) (σ := σ) (List.getElem?_eq_getElem hk2)) hk e.symm
      · exact absurd ((xl_PR hP) k q hk).lt (Nat.not_lt.mpr z))))) (xl_D (by rw [List.map_append, List.map_append]; congr 1) hD) hS1 h
theorem xl_callR {y : xk_Y} {d n idx : Nat} {As : List Value} {Pq : Int32 → xk_St → Prop} (hc : xl_H K D gc gm b L xs) (hy : xk_CY (xm (D, gm)) y n) (hcls : y.1.cls = RM) (hlink : Cond.methodLink R_law idx y.1 ∈ xt_T) (hin : Cond.instanceMethod y.1 ∈ xt_T) (hsel : Cond.selects y.1.cls y.1 y.1 ∈ xt_T) (hM : xk_M (xm (D, gm)) d y (.ref (gm.1 0) :: As) ρ (xk_pi Pq)) (hd1 : d + 1 ≤ 9) (hd2 : 8 + (y.2.2.1 + 11) + 40 * d ≤ 336) (hn : As.length = n) (hst : (st.map fun v => v.category).sum ≤ 8) (hd : xk_d code pc (.invokevirtual idx) 3 pc') (kk : ∀ (r : Int32) (τ : xk_St), Pq r τ → xk_X K (xl_V D gc gm) (σ, τ) pc' lv (.int r :: st)) : xk_X K (xl_V D gc gm) (σ, ρ) pc lv (As.reverse ++ .ref (gm.1 0) :: st) := by
  obtain ⟨p, l, e, R, s, m, args, below, meth, c, A, cells, slots, Q⟩ := K
  obtain ⟨hd, rfl⟩ := hd
  intro H locs ls hP hD hS h
  have hA := hc.2.2.2.2.2.1
  have hR := hc.2.2.2.1
  obtain ⟨hcl0, hsl0⟩ := hc.2.2.2.2.1
  have hAq : ∀ q, s.heap.size ≤ q → A q := fun q h => by rw [hA]; exact h
  have hPc : va_P D xt_C (xk_ws (xm (D, gm)) ρ) H := xl_PR hP
  have hDc : va_D A (xk_ws (xm (D, gm)) ρ) := xl_DR hD
  have hF := xk_sub (w := xm (D, gm)) hDc hS hAq
  have hCB : CallB R s args R_law idx y.1 y.2.1 y.2.2.1 y.2.2.2 (Cond.code y.1 y.2.1 y.2.2.1 y.2.2.2 :: xt_T) (xk_rm d) 0 0 n := callB_of n hc.1.2.2.2.2 (xd_good hy.1) rfl rfl rfl (hc.1.2.2.2.2 _ hy.2.1) (hc.1.2.2.2.2 _ hlink) hy.2.2.1 ⟨by rw [hR]; exact hd1, by rw [hR]; exact hd2⟩
  have h00 := xk_wl_at (shp := xm_S) (g := gm) (σ := ρ) (k := 0) rfl
  have hrec := va_recv (q := (RM, FM, 30)) hc.2.2.1.1 hPc (ci := 5) rfl h00
  refine xk_on (w := xm (D, gm)) (va_runV (C := y.1.cls) (As := As) (rest := st) ⟨hc.1.1, hc.1.2.1, rfl, hc.1.2.2.2.1, hc.1.2.2.2.2⟩ (hM l H.size) ⟨hCB, hc.1.2.2.2.2 _ hin, hc.1.2.2.2.2 _ hsel⟩ ⟨(xk_pre (w := xm (D, gm)) (args := .ref (gm.1 0) :: As) hc.2.2.1 hPc hDc).1, by rw [hcls]; exact hrec, (xk_pre (w := xm (D, gm)) (args := .ref (gm.1 0) :: As) hc.2.2.1 hPc hDc).2⟩ rfl hn h.1 rfl (lv_room hst) hd ⟨by rw [hcl0, hR]; exact Nat.le_refl _, by rw [hsl0, hR]; exact Nat.le_refl _⟩) hS (fun q _ h => hF q h) hF (fun v τ H1 locs1 hp hP1 hfr hS1 => ?_)
  obtain ⟨r, rfl, hp⟩ := hp
  exact kk r τ hp H1 locs1 ls (va_P.app ((xl_PL hP).kept (fun k q hk => hfr q.1 ((xl_PL hP) k q hk).lt (fun z => by
      rcases z with ⟨k2, hk2, e⟩ | z
      · exact xl_apart hD hk (xk_wl_at (g := gm) (σ := ρ) (List.getElem?_eq_getElem hk2)) e
      · exact absurd ((xl_PL hP) k q hk).lt (Nat.not_lt.mpr z)))) hP1) (xl_D (by rw [List.map_append, List.map_append]; congr 1) hD) hS1 h
theorem xl_F_wall {a1 a2 : Value} {Pq : Int32 → xk_St → Prop} (hc : xl_H K D gc gm b L xs) (hd : xk_d code pc (.invokevirtual 13) 3 pc') (hM : xk_M (xc (D, gc)) 3 y_F_wall [.ref (gc.1 0), a1, a2] σ (xk_pi Pq)) (kk : ∀ (r : Int32) (τ : xk_St), Pq r τ → xk_X K (xl_V D gc gm) (τ, ρ) pc' lv (.int r :: st)) (hst : (st.map fun v => v.category).sum ≤ 8 := by exact Nat.le_of_ble_eq_true rfl) : xk_X K (xl_V D gc gm) (σ, ρ) pc lv (a2 :: a1 :: .ref (gc.1 0) :: st) :=
  xl_callL (As := [a1, a2]) hc (cy_F_wall (D, gc)) rfl (xj_mem 163 (by decide +kernel) (by decide +kernel)) (xj_mem 164 (by decide +kernel) (by decide +kernel)) (xj_mem 165 (by decide +kernel) (by decide +kernel)) hM (by decide) (by decide) rfl hst hd kk
theorem xl_F_unit {a1 a2 : Value} {Pq : Int32 → xk_St → Prop} (hc : xl_H K D gc gm b L xs) (hd : xk_d code pc (.invokevirtual 18) 3 pc') (hM : xk_M (xc (D, gc)) 5 y_F_unit [.ref (gc.1 0), a1, a2] σ (xk_pi Pq)) (kk : ∀ (r : Int32) (τ : xk_St), Pq r τ → xk_X K (xl_V D gc gm) (τ, ρ) pc' lv (.int r :: st)) (hst : (st.map fun v => v.category).sum ≤ 8 := by exact Nat.le_of_ble_eq_true rfl) : xk_X K (xl_V D gc gm) (σ, ρ) pc lv (a2 :: a1 :: .ref (gc.1 0) :: st) :=
  xl_callL (As := [a1, a2]) hc (cy_F_unit (D, gc)) rfl (xj_mem 191 (by decide +kernel) (by decide +kernel)) (xj_mem 192 (by decide +kernel) (by decide +kernel)) (xj_mem 193 (by decide +kernel) (by decide +kernel)) hM (by decide) (by decide) rfl hst hd kk
theorem xl_F_begin {Pq : Int32 → xk_St → Prop} (hc : xl_H K D gc gm b L xs) (hd : xk_d code pc (.invokevirtual 23) 3 pc') (hM : xk_M (xc (D, gc)) 0 y_F_begin [.ref (gc.1 0)] σ (xk_pi Pq)) (kk : ∀ (r : Int32) (τ : xk_St), Pq r τ → xk_X K (xl_V D gc gm) (τ, ρ) pc' lv (.int r :: st)) (hst : (st.map fun v => v.category).sum ≤ 8 := by exact Nat.le_of_ble_eq_true rfl) : xk_X K (xl_V D gc gm) (σ, ρ) pc lv (.ref (gc.1 0) :: st) :=
  xl_callL (As := []) hc (cy_F_begin (D, gc)) rfl (xj_mem 219 (by decide +kernel) (by decide +kernel)) (xj_mem 220 (by decide +kernel) (by decide +kernel)) (xj_mem 221 (by decide +kernel) (by decide +kernel)) hM (by decide) (by decide) rfl hst hd kk
theorem xl_F_command {a1 a2 a3 a4 : Value} {Pq : Int32 → xk_St → Prop} (hc : xl_H K D gc gm b L xs) (hd : xk_d code pc (.invokevirtual 28) 3 pc') (hM : xk_M (xc (D, gc)) 2 y_F_command [.ref (gc.1 0), a1, a2, a3, a4] σ (xk_pi Pq)) (kk : ∀ (r : Int32) (τ : xk_St), Pq r τ → xk_X K (xl_V D gc gm) (τ, ρ) pc' lv (.int r :: st)) (hst : (st.map fun v => v.category).sum ≤ 8 := by exact Nat.le_of_ble_eq_true rfl) : xk_X K (xl_V D gc gm) (σ, ρ) pc lv (a4 :: a3 :: a2 :: a1 :: .ref (gc.1 0) :: st) :=
  xl_callL (As := [a1, a2, a3, a4]) hc (cy_F_command (D, gc)) rfl (xj_mem 223 (by decide +kernel) (by decide +kernel)) (xj_mem 224 (by decide +kernel) (by decide +kernel)) (xj_mem 225 (by decide +kernel) (by decide +kernel)) hM (by decide) (by decide) rfl hst hd kk
theorem xl_F_forget {a1 : Value} {Pq : Int32 → xk_St → Prop} (hc : xl_H K D gc gm b L xs) (hd : xk_d code pc (.invokevirtual 33) 3 pc') (hM : xk_M (xc (D, gc)) 3 y_F_forget [.ref (gc.1 0), a1] σ (xk_pi Pq)) (kk : ∀ (r : Int32) (τ : xk_St), Pq r τ → xk_X K (xl_V D gc gm) (τ, ρ) pc' lv (.int r :: st)) (hst : (st.map fun v => v.category).sum ≤ 8 := by exact Nat.le_of_ble_eq_true rfl) : xk_X K (xl_V D gc gm) (σ, ρ) pc lv (a1 :: .ref (gc.1 0) :: st) :=
  xl_callL (As := [a1]) hc (cy_F_forget (D, gc)) rfl (xj_mem 239 (by decide +kernel) (by decide +kernel)) (xj_mem 240 (by decide +kernel) (by decide +kernel)) (xj_mem 241 (by decide +kernel) (by decide +kernel)) hM (by decide) (by decide) rfl hst hd kk
theorem xl_F_run {a1 : Value} {Pq : Int32 → xk_St → Prop} (hc : xl_H K D gc gm b L xs) (hd : xk_d code pc (.invokevirtual 38) 3 pc') (hM : xk_M (xc (D, gc)) 6 y_F_run [.ref (gc.1 0), a1] σ (xk_pi Pq)) (kk : ∀ (r : Int32) (τ : xk_St), Pq r τ → xk_X K (xl_V D gc gm) (τ, ρ) pc' lv (.int r :: st)) (hst : (st.map fun v => v.category).sum ≤ 8 := by exact Nat.le_of_ble_eq_true rfl) : xk_X K (xl_V D gc gm) (σ, ρ) pc lv (a1 :: .ref (gc.1 0) :: st) :=
  xl_callL (As := [a1]) hc (cy_F_run (D, gc)) rfl (xj_mem 254 (by decide +kernel) (by decide +kernel)) (xj_mem 255 (by decide +kernel) (by decide +kernel)) (xj_mem 256 (by decide +kernel) (by decide +kernel)) hM (by decide) (by decide) rfl hst hd kk
theorem xl_F_replay {Pq : Int32 → xk_St → Prop} (hc : xl_H K D gc gm b L xs) (hd : xk_d code pc (.invokevirtual 43) 3 pc') (hM : xk_M (xc (D, gc)) 6 y_F_replay [.ref (gc.1 0)] σ (xk_pi Pq)) (kk : ∀ (r : Int32) (τ : xk_St), Pq r τ → xk_X K (xl_V D gc gm) (τ, ρ) pc' lv (.int r :: st)) (hst : (st.map fun v => v.category).sum ≤ 8 := by exact Nat.le_of_ble_eq_true rfl) : xk_X K (xl_V D gc gm) (σ, ρ) pc lv (.ref (gc.1 0) :: st) :=
  xl_callL (As := []) hc (cy_F_replay (D, gc)) rfl (xj_mem 360 (by decide +kernel) (by decide +kernel)) (xj_mem 361 (by decide +kernel) (by decide +kernel)) (xj_mem 362 (by decide +kernel) (by decide +kernel)) hM (by decide) (by decide) rfl hst hd kk
theorem xl_F_number {a1 : Value} {Pq : Int32 → xk_St → Prop} (hc : xl_H K D gc gm b L xs) (hd : xk_d code pc (.invokevirtual 47) 3 pc') (hM : xk_M (xc (D, gc)) 0 y_F_number [.ref (gc.1 0), a1] σ (xk_pi Pq)) (kk : ∀ (r : Int32) (τ : xk_St), Pq r τ → xk_X K (xl_V D gc gm) (τ, ρ) pc' lv (.int r :: st)) (hst : (st.map fun v => v.category).sum ≤ 8 := by exact Nat.le_of_ble_eq_true rfl) : xk_X K (xl_V D gc gm) (σ, ρ) pc lv (a1 :: .ref (gc.1 0) :: st) :=
  xl_callL (As := [a1]) hc (cy_F_number (D, gc)) rfl (xj_mem 369 (by decide +kernel) (by decide +kernel)) (xj_mem 370 (by decide +kernel) (by decide +kernel)) (xj_mem 371 (by decide +kernel) (by decide +kernel)) hM (by decide) (by decide) rfl hst hd kk
theorem xl_F_tile {a1 : Value} {Pq : Int32 → xk_St → Prop} (hc : xl_H K D gc gm b L xs) (hd : xk_d code pc (.invokevirtual 51) 3 pc') (hM : xk_M (xc (D, gc)) 1 y_F_tile [.ref (gc.1 0), a1] σ (xk_pi Pq)) (kk : ∀ (r : Int32) (τ : xk_St), Pq r τ → xk_X K (xl_V D gc gm) (τ, ρ) pc' lv (.int r :: st)) (hst : (st.map fun v => v.category).sum ≤ 8 := by exact Nat.le_of_ble_eq_true rfl) : xk_X K (xl_V D gc gm) (σ, ρ) pc lv (a1 :: .ref (gc.1 0) :: st) :=
  xl_callL (As := [a1]) hc (cy_F_tile (D, gc)) rfl (xj_mem 373 (by decide +kernel) (by decide +kernel)) (xj_mem 374 (by decide +kernel) (by decide +kernel)) (xj_mem 375 (by decide +kernel) (by decide +kernel)) hM (by decide) (by decide) rfl hst hd kk
theorem xl_F_points {a1 : Value} {Pq : Int32 → xk_St → Prop} (hc : xl_H K D gc gm b L xs) (hd : xk_d code pc (.invokevirtual 55) 3 pc') (hM : xk_M (xc (D, gc)) 1 y_F_points [.ref (gc.1 0), a1] σ (xk_pi Pq)) (kk : ∀ (r : Int32) (τ : xk_St), Pq r τ → xk_X K (xl_V D gc gm) (τ, ρ) pc' lv (.int r :: st)) (hst : (st.map fun v => v.category).sum ≤ 8 := by exact Nat.le_of_ble_eq_true rfl) : xk_X K (xl_V D gc gm) (σ, ρ) pc lv (a1 :: .ref (gc.1 0) :: st) :=
  xl_callL (As := [a1]) hc (cy_F_points (D, gc)) rfl (xj_mem 378 (by decide +kernel) (by decide +kernel)) (xj_mem 379 (by decide +kernel) (by decide +kernel)) (xj_mem 380 (by decide +kernel) (by decide +kernel)) hM (by decide) (by decide) rfl hst hd kk
theorem xl_F_order {a1 : Value} {Pq : Int32 → xk_St → Prop} (hc : xl_H K D gc gm b L xs) (hd : xk_d code pc (.invokevirtual 59) 3 pc') (hM : xk_M (xc (D, gc)) 1 y_F_order [.ref (gc.1 0), a1] σ (xk_pi Pq)) (kk : ∀ (r : Int32) (τ : xk_St), Pq r τ → xk_X K (xl_V D gc gm) (τ, ρ) pc' lv (.int r :: st)) (hst : (st.map fun v => v.category).sum ≤ 8 := by exact Nat.le_of_ble_eq_true rfl) : xk_X K (xl_V D gc gm) (σ, ρ) pc lv (a1 :: .ref (gc.1 0) :: st) :=
  xl_callL (As := [a1]) hc (cy_F_order (D, gc)) rfl (xj_mem 382 (by decide +kernel) (by decide +kernel)) (xj_mem 383 (by decide +kernel) (by decide +kernel)) (xj_mem 384 (by decide +kernel) (by decide +kernel)) hM (by decide) (by decide) rfl hst hd kk
theorem xl_F_path {a1 a2 : Value} {Pq : Int32 → xk_St → Prop} (hc : xl_H K D gc gm b L xs) (hd : xk_d code pc (.invokevirtual 63) 3 pc') (hM : xk_M (xc (D, gc)) 1 y_F_path [.ref (gc.1 0), a1, a2] σ (xk_pi Pq)) (kk : ∀ (r : Int32) (τ : xk_St), Pq r τ → xk_X K (xl_V D gc gm) (τ, ρ) pc' lv (.int r :: st)) (hst : (st.map fun v => v.category).sum ≤ 8 := by exact Nat.le_of_ble_eq_true rfl) : xk_X K (xl_V D gc gm) (σ, ρ) pc lv (a2 :: a1 :: .ref (gc.1 0) :: st) :=
  xl_callL (As := [a1, a2]) hc (cy_F_path (D, gc)) rfl (xj_mem 386 (by decide +kernel) (by decide +kernel)) (xj_mem 387 (by decide +kernel) (by decide +kernel)) (xj_mem 388 (by decide +kernel) (by decide +kernel)) hM (by decide) (by decide) rfl hst hd kk
theorem xl_F_entries {Pq : Int32 → xk_St → Prop} (hc : xl_H K D gc gm b L xs) (hd : xk_d code pc (.invokevirtual 67) 3 pc') (hM : xk_M (xc (D, gc)) 0 y_F_entries [.ref (gc.1 0)] σ (xk_pi Pq)) (kk : ∀ (r : Int32) (τ : xk_St), Pq r τ → xk_X K (xl_V D gc gm) (τ, ρ) pc' lv (.int r :: st)) (hst : (st.map fun v => v.category).sum ≤ 8 := by exact Nat.le_of_ble_eq_true rfl) : xk_X K (xl_V D gc gm) (σ, ρ) pc lv (.ref (gc.1 0) :: st) :=
  xl_callL (As := []) hc (cy_F_entries (D, gc)) rfl (xj_mem 392 (by decide +kernel) (by decide +kernel)) (xj_mem 393 (by decide +kernel) (by decide +kernel)) (xj_mem 394 (by decide +kernel) (by decide +kernel)) hM (by decide) (by decide) rfl hst hd kk
theorem xl_F_steps {a1 a2 : Value} {Pq : Int32 → xk_St → Prop} (hc : xl_H K D gc gm b L xs) (hd : xk_d code pc (.invokevirtual 71) 3 pc') (hM : xk_M (xc (D, gc)) 2 y_F_steps [.ref (gc.1 0), a1, a2] σ (xk_pi Pq)) (kk : ∀ (r : Int32) (τ : xk_St), Pq r τ → xk_X K (xl_V D gc gm) (τ, ρ) pc' lv (.int r :: st)) (hst : (st.map fun v => v.category).sum ≤ 8 := by exact Nat.le_of_ble_eq_true rfl) : xk_X K (xl_V D gc gm) (σ, ρ) pc lv (a2 :: a1 :: .ref (gc.1 0) :: st) :=
  xl_callL (As := [a1, a2]) hc (cy_F_steps (D, gc)) rfl (xj_mem 396 (by decide +kernel) (by decide +kernel)) (xj_mem 397 (by decide +kernel) (by decide +kernel)) (xj_mem 398 (by decide +kernel) (by decide +kernel)) hM (by decide) (by decide) rfl hst hd kk
theorem xl_F_winner {Pq : Int32 → xk_St → Prop} (hc : xl_H K D gc gm b L xs) (hd : xk_d code pc (.invokevirtual 75) 3 pc') (hM : xk_M (xc (D, gc)) 2 y_F_winner [.ref (gc.1 0)] σ (xk_pi Pq)) (kk : ∀ (r : Int32) (τ : xk_St), Pq r τ → xk_X K (xl_V D gc gm) (τ, ρ) pc' lv (.int r :: st)) (hst : (st.map fun v => v.category).sum ≤ 8 := by exact Nat.le_of_ble_eq_true rfl) : xk_X K (xl_V D gc gm) (σ, ρ) pc lv (.ref (gc.1 0) :: st) :=
  xl_callL (As := []) hc (cy_F_winner (D, gc)) rfl (xj_mem 401 (by decide +kernel) (by decide +kernel)) (xj_mem 402 (by decide +kernel) (by decide +kernel)) (xj_mem 403 (by decide +kernel) (by decide +kernel)) hM (by decide) (by decide) rfl hst hd kk
theorem xl_M_wall {a1 a2 : Value} {Pq : Int32 → xk_St → Prop} (hc : xl_H K D gc gm b L xs) (hd : xk_d code pc (.invokevirtual 17) 3 pc') (hM : xk_M (xm (D, gm)) 1 y_M_wall [.ref (gm.1 0), a1, a2] ρ (xk_pi Pq)) (kk : ∀ (r : Int32) (τ : xk_St), Pq r τ → xk_X K (xl_V D gc gm) (σ, τ) pc' lv (.int r :: st)) (hst : (st.map fun v => v.category).sum ≤ 8 := by exact Nat.le_of_ble_eq_true rfl) : xk_X K (xl_V D gc gm) (σ, ρ) pc lv (a2 :: a1 :: .ref (gm.1 0) :: st) :=
  xl_callR (As := [a1, a2]) hc (cy_M_wall (D, gm)) rfl (xj_mem 507 (by decide +kernel) (by decide +kernel)) (xj_mem 508 (by decide +kernel) (by decide +kernel)) (xj_mem 509 (by decide +kernel) (by decide +kernel)) hM (by decide) (by decide) rfl hst hd kk
theorem xl_M_unit {a1 a2 : Value} {Pq : Int32 → xk_St → Prop} (hc : xl_H K D gc gm b L xs) (hd : xk_d code pc (.invokevirtual 22) 3 pc') (hM : xk_M (xm (D, gm)) 1 y_M_unit [.ref (gm.1 0), a1, a2] ρ (xk_pi Pq)) (kk : ∀ (r : Int32) (τ : xk_St), Pq r τ → xk_X K (xl_V D gc gm) (σ, τ) pc' lv (.int r :: st)) (hst : (st.map fun v => v.category).sum ≤ 8 := by exact Nat.le_of_ble_eq_true rfl) : xk_X K (xl_V D gc gm) (σ, ρ) pc lv (a2 :: a1 :: .ref (gm.1 0) :: st) :=
  xl_callR (As := [a1, a2]) hc (cy_M_unit (D, gm)) rfl (xj_mem 518 (by decide +kernel) (by decide +kernel)) (xj_mem 519 (by decide +kernel) (by decide +kernel)) (xj_mem 520 (by decide +kernel) (by decide +kernel)) hM (by decide) (by decide) rfl hst hd kk
theorem xl_M_begin {Pq : Int32 → xk_St → Prop} (hc : xl_H K D gc gm b L xs) (hd : xk_d code pc (.invokevirtual 27) 3 pc') (hM : xk_M (xm (D, gm)) 0 y_M_begin [.ref (gm.1 0)] ρ (xk_pi Pq)) (kk : ∀ (r : Int32) (τ : xk_St), Pq r τ → xk_X K (xl_V D gc gm) (σ, τ) pc' lv (.int r :: st)) (hst : (st.map fun v => v.category).sum ≤ 8 := by exact Nat.le_of_ble_eq_true rfl) : xk_X K (xl_V D gc gm) (σ, ρ) pc lv (.ref (gm.1 0) :: st) :=
  xl_callR (As := []) hc (cy_M_begin (D, gm)) rfl (xj_mem 522 (by decide +kernel) (by decide +kernel)) (xj_mem 523 (by decide +kernel) (by decide +kernel)) (xj_mem 524 (by decide +kernel) (by decide +kernel)) hM (by decide) (by decide) rfl hst hd kk
theorem xl_M_command {a1 a2 a3 a4 : Value} {Pq : Int32 → xk_St → Prop} (hc : xl_H K D gc gm b L xs) (hd : xk_d code pc (.invokevirtual 32) 3 pc') (hM : xk_M (xm (D, gm)) 1 y_M_command [.ref (gm.1 0), a1, a2, a3, a4] ρ (xk_pi Pq)) (kk : ∀ (r : Int32) (τ : xk_St), Pq r τ → xk_X K (xl_V D gc gm) (σ, τ) pc' lv (.int r :: st)) (hst : (st.map fun v => v.category).sum ≤ 8 := by exact Nat.le_of_ble_eq_true rfl) : xk_X K (xl_V D gc gm) (σ, ρ) pc lv (a4 :: a3 :: a2 :: a1 :: .ref (gm.1 0) :: st) :=
  xl_callR (As := [a1, a2, a3, a4]) hc (cy_M_command (D, gm)) rfl (xj_mem 526 (by decide +kernel) (by decide +kernel)) (xj_mem 527 (by decide +kernel) (by decide +kernel)) (xj_mem 528 (by decide +kernel) (by decide +kernel)) hM (by decide) (by decide) rfl hst hd kk
theorem xl_M_forget {a1 : Value} {Pq : Int32 → xk_St → Prop} (hc : xl_H K D gc gm b L xs) (hd : xk_d code pc (.invokevirtual 37) 3 pc') (hM : xk_M (xm (D, gm)) 0 y_M_forget [.ref (gm.1 0), a1] ρ (xk_pi Pq)) (kk : ∀ (r : Int32) (τ : xk_St), Pq r τ → xk_X K (xl_V D gc gm) (σ, τ) pc' lv (.int r :: st)) (hst : (st.map fun v => v.category).sum ≤ 8 := by exact Nat.le_of_ble_eq_true rfl) : xk_X K (xl_V D gc gm) (σ, ρ) pc lv (a1 :: .ref (gm.1 0) :: st) :=
  xl_callR (As := [a1]) hc (cy_M_forget (D, gm)) rfl (xj_mem 534 (by decide +kernel) (by decide +kernel)) (xj_mem 535 (by decide +kernel) (by decide +kernel)) (xj_mem 536 (by decide +kernel) (by decide +kernel)) hM (by decide) (by decide) rfl hst hd kk
theorem xl_M_run {a1 : Value} {Pq : Int32 → xk_St → Prop} (hc : xl_H K D gc gm b L xs) (hd : xk_d code pc (.invokevirtual 42) 3 pc') (hM : xk_M (xm (D, gm)) 5 y_M_run [.ref (gm.1 0), a1] ρ (xk_pi Pq)) (kk : ∀ (r : Int32) (τ : xk_St), Pq r τ → xk_X K (xl_V D gc gm) (σ, τ) pc' lv (.int r :: st)) (hst : (st.map fun v => v.category).sum ≤ 8 := by exact Nat.le_of_ble_eq_true rfl) : xk_X K (xl_V D gc gm) (σ, ρ) pc lv (a1 :: .ref (gm.1 0) :: st) :=
  xl_callR (As := [a1]) hc (cy_M_run (D, gm)) rfl (xj_mem 549 (by decide +kernel) (by decide +kernel)) (xj_mem 550 (by decide +kernel) (by decide +kernel)) (xj_mem 551 (by decide +kernel) (by decide +kernel)) hM (by decide) (by decide) rfl hst hd kk
theorem xl_M_replay {Pq : Int32 → xk_St → Prop} (hc : xl_H K D gc gm b L xs) (hd : xk_d code pc (.invokevirtual 46) 3 pc') (hM : xk_M (xm (D, gm)) 5 y_M_replay [.ref (gm.1 0)] ρ (xk_pi Pq)) (kk : ∀ (r : Int32) (τ : xk_St), Pq r τ → xk_X K (xl_V D gc gm) (σ, τ) pc' lv (.int r :: st)) (hst : (st.map fun v => v.category).sum ≤ 8 := by exact Nat.le_of_ble_eq_true rfl) : xk_X K (xl_V D gc gm) (σ, ρ) pc lv (.ref (gm.1 0) :: st) :=
  xl_callR (As := []) hc (cy_M_replay (D, gm)) rfl (xj_mem 584 (by decide +kernel) (by decide +kernel)) (xj_mem 585 (by decide +kernel) (by decide +kernel)) (xj_mem 586 (by decide +kernel) (by decide +kernel)) hM (by decide) (by decide) rfl hst hd kk
theorem xl_M_number {a1 : Value} {Pq : Int32 → xk_St → Prop} (hc : xl_H K D gc gm b L xs) (hd : xk_d code pc (.invokevirtual 50) 3 pc') (hM : xk_M (xm (D, gm)) 0 y_M_number [.ref (gm.1 0), a1] ρ (xk_pi Pq)) (kk : ∀ (r : Int32) (τ : xk_St), Pq r τ → xk_X K (xl_V D gc gm) (σ, τ) pc' lv (.int r :: st)) (hst : (st.map fun v => v.category).sum ≤ 8 := by exact Nat.le_of_ble_eq_true rfl) : xk_X K (xl_V D gc gm) (σ, ρ) pc lv (a1 :: .ref (gm.1 0) :: st) :=
  xl_callR (As := [a1]) hc (cy_M_number (D, gm)) rfl (xj_mem 596 (by decide +kernel) (by decide +kernel)) (xj_mem 597 (by decide +kernel) (by decide +kernel)) (xj_mem 598 (by decide +kernel) (by decide +kernel)) hM (by decide) (by decide) rfl hst hd kk
theorem xl_M_tile {a1 : Value} {Pq : Int32 → xk_St → Prop} (hc : xl_H K D gc gm b L xs) (hd : xk_d code pc (.invokevirtual 54) 3 pc') (hM : xk_M (xm (D, gm)) 1 y_M_tile [.ref (gm.1 0), a1] ρ (xk_pi Pq)) (kk : ∀ (r : Int32) (τ : xk_St), Pq r τ → xk_X K (xl_V D gc gm) (σ, τ) pc' lv (.int r :: st)) (hst : (st.map fun v => v.category).sum ≤ 8 := by exact Nat.le_of_ble_eq_true rfl) : xk_X K (xl_V D gc gm) (σ, ρ) pc lv (a1 :: .ref (gm.1 0) :: st) :=
  xl_callR (As := [a1]) hc (cy_M_tile (D, gm)) rfl (xj_mem 600 (by decide +kernel) (by decide +kernel)) (xj_mem 601 (by decide +kernel) (by decide +kernel)) (xj_mem 602 (by decide +kernel) (by decide +kernel)) hM (by decide) (by decide) rfl hst hd kk
theorem xl_M_points {a1 : Value} {Pq : Int32 → xk_St → Prop} (hc : xl_H K D gc gm b L xs) (hd : xk_d code pc (.invokevirtual 58) 3 pc') (hM : xk_M (xm (D, gm)) 1 y_M_points [.ref (gm.1 0), a1] ρ (xk_pi Pq)) (kk : ∀ (r : Int32) (τ : xk_St), Pq r τ → xk_X K (xl_V D gc gm) (σ, τ) pc' lv (.int r :: st)) (hst : (st.map fun v => v.category).sum ≤ 8 := by exact Nat.le_of_ble_eq_true rfl) : xk_X K (xl_V D gc gm) (σ, ρ) pc lv (a1 :: .ref (gm.1 0) :: st) :=
  xl_callR (As := [a1]) hc (cy_M_points (D, gm)) rfl (xj_mem 604 (by decide +kernel) (by decide +kernel)) (xj_mem 605 (by decide +kernel) (by decide +kernel)) (xj_mem 606 (by decide +kernel) (by decide +kernel)) hM (by decide) (by decide) rfl hst hd kk
theorem xl_M_order {a1 : Value} {Pq : Int32 → xk_St → Prop} (hc : xl_H K D gc gm b L xs) (hd : xk_d code pc (.invokevirtual 62) 3 pc') (hM : xk_M (xm (D, gm)) 1 y_M_order [.ref (gm.1 0), a1] ρ (xk_pi Pq)) (kk : ∀ (r : Int32) (τ : xk_St), Pq r τ → xk_X K (xl_V D gc gm) (σ, τ) pc' lv (.int r :: st)) (hst : (st.map fun v => v.category).sum ≤ 8 := by exact Nat.le_of_ble_eq_true rfl) : xk_X K (xl_V D gc gm) (σ, ρ) pc lv (a1 :: .ref (gm.1 0) :: st) :=
  xl_callR (As := [a1]) hc (cy_M_order (D, gm)) rfl (xj_mem 608 (by decide +kernel) (by decide +kernel)) (xj_mem 609 (by decide +kernel) (by decide +kernel)) (xj_mem 610 (by decide +kernel) (by decide +kernel)) hM (by decide) (by decide) rfl hst hd kk
theorem xl_M_path {a1 a2 : Value} {Pq : Int32 → xk_St → Prop} (hc : xl_H K D gc gm b L xs) (hd : xk_d code pc (.invokevirtual 66) 3 pc') (hM : xk_M (xm (D, gm)) 1 y_M_path [.ref (gm.1 0), a1, a2] ρ (xk_pi Pq)) (kk : ∀ (r : Int32) (τ : xk_St), Pq r τ → xk_X K (xl_V D gc gm) (σ, τ) pc' lv (.int r :: st)) (hst : (st.map fun v => v.category).sum ≤ 8 := by exact Nat.le_of_ble_eq_true rfl) : xk_X K (xl_V D gc gm) (σ, ρ) pc lv (a2 :: a1 :: .ref (gm.1 0) :: st) :=
  xl_callR (As := [a1, a2]) hc (cy_M_path (D, gm)) rfl (xj_mem 612 (by decide +kernel) (by decide +kernel)) (xj_mem 613 (by decide +kernel) (by decide +kernel)) (xj_mem 614 (by decide +kernel) (by decide +kernel)) hM (by decide) (by decide) rfl hst hd kk
theorem xl_M_entries {Pq : Int32 → xk_St → Prop} (hc : xl_H K D gc gm b L xs) (hd : xk_d code pc (.invokevirtual 70) 3 pc') (hM : xk_M (xm (D, gm)) 0 y_M_entries [.ref (gm.1 0)] ρ (xk_pi Pq)) (kk : ∀ (r : Int32) (τ : xk_St), Pq r τ → xk_X K (xl_V D gc gm) (σ, τ) pc' lv (.int r :: st)) (hst : (st.map fun v => v.category).sum ≤ 8 := by exact Nat.le_of_ble_eq_true rfl) : xk_X K (xl_V D gc gm) (σ, ρ) pc lv (.ref (gm.1 0) :: st) :=
  xl_callR (As := []) hc (cy_M_entries (D, gm)) rfl (xj_mem 616 (by decide +kernel) (by decide +kernel)) (xj_mem 617 (by decide +kernel) (by decide +kernel)) (xj_mem 618 (by decide +kernel) (by decide +kernel)) hM (by decide) (by decide) rfl hst hd kk
theorem xl_M_steps {a1 a2 : Value} {Pq : Int32 → xk_St → Prop} (hc : xl_H K D gc gm b L xs) (hd : xk_d code pc (.invokevirtual 74) 3 pc') (hM : xk_M (xm (D, gm)) 2 y_M_steps [.ref (gm.1 0), a1, a2] ρ (xk_pi Pq)) (kk : ∀ (r : Int32) (τ : xk_St), Pq r τ → xk_X K (xl_V D gc gm) (σ, τ) pc' lv (.int r :: st)) (hst : (st.map fun v => v.category).sum ≤ 8 := by exact Nat.le_of_ble_eq_true rfl) : xk_X K (xl_V D gc gm) (σ, ρ) pc lv (a2 :: a1 :: .ref (gm.1 0) :: st) :=
  xl_callR (As := [a1, a2]) hc (cy_M_steps (D, gm)) rfl (xj_mem 538 (by decide +kernel) (by decide +kernel)) (xj_mem 539 (by decide +kernel) (by decide +kernel)) (xj_mem 540 (by decide +kernel) (by decide +kernel)) hM (by decide) (by decide) rfl hst hd kk
theorem xl_M_winner {Pq : Int32 → xk_St → Prop} (hc : xl_H K D gc gm b L xs) (hd : xk_d code pc (.invokevirtual 78) 3 pc') (hM : xk_M (xm (D, gm)) 0 y_M_winner [.ref (gm.1 0)] ρ (xk_pi Pq)) (kk : ∀ (r : Int32) (τ : xk_St), Pq r τ → xk_X K (xl_V D gc gm) (σ, τ) pc' lv (.int r :: st)) (hst : (st.map fun v => v.category).sum ≤ 8 := by exact Nat.le_of_ble_eq_true rfl) : xk_X K (xl_V D gc gm) (σ, ρ) pc lv (.ref (gm.1 0) :: st) :=
  xl_callR (As := []) hc (cy_M_winner (D, gm)) rfl (xj_mem 620 (by decide +kernel) (by decide +kernel)) (xj_mem 621 (by decide +kernel) (by decide +kernel)) (xj_mem 622 (by decide +kernel) (by decide +kernel)) hM (by decide) (by decide) rfl hst hd kk
set_option maxHeartbeats 2000000 in
theorem xl_loop (hc : xl_H K D gc gm b L xs) (hL : L < 2 ^ 30) (done : ∀ (σ ρ : xk_St) (v : Int32), xk_X K (xl_V D gc gm) (σ, ρ) 505 [(0, .ref b), (1, .ref (gc.1 0)), (2, .ref (gm.1 0)), (3, .int v)] []) : ∀ (f i : Nat) (S : am_S) (σ ρ : xk_St), L + 5 ≤ i + 5 * f → i ≤ L + 5 → xc_R S σ → xm_R S ρ → am_okS S → xk_X K (xl_V D gc gm) (σ, ρ) 18 [(0, .ref b), (1, .ref (gc.1 0)), (2, .ref (gm.1 0)), (3, .int (nI i))] [] := by
  have hE := xl_E hc
  have hL0 : L < 2 ^ 30 := hL
  have hL : L < 2 ^ 31 := by omega
  intro f
  induction f with
  | zero =>
    intro i S σ ρ hf hi hR hM hS
    refine x_iload_n hE d_W_law_18 3 rfl ?_
    refine x_aload_n hE d_W_law_19 0 rfl ?_
    refine xl_slen hc d_W_law_20 ?_
    refine x_iconst (nI 5) hE d_W_law_21 (by decide) ?_
    refine x_isub hE d_W_law_22 ?_
    refine x_icmp_gt hE d_W_law_23 (fun h => ?_) (fun h => ?_)
    · exact done σ ρ _
    · have hle : i + 5 ≤ L := by
        rw [Int32.lt_iff_toInt_lt, pk_sub_toInt (by omega) (by decide), nI_toInt (by omega)] at h
        omega
      omega
  | succ f ih =>
    intro i S σ ρ hf hi hR hM hS
    refine x_iload_n hE d_W_law_18 3 rfl ?_
    refine x_aload_n hE d_W_law_19 0 rfl ?_
    refine xl_slen hc d_W_law_20 ?_
    refine x_iconst (nI 5) hE d_W_law_21 (by decide) ?_
    refine x_isub hE d_W_law_22 ?_
    refine x_icmp_gt hE d_W_law_23 (fun h => ?_) (fun h => ?_)
    · exact done σ ρ _
    · have hle : i + 5 ≤ L := by
        rw [Int32.lt_iff_toInt_lt, pk_sub_toInt (by omega) (by decide), nI_toInt (by omega)] at h
        omega
      have next : ∀ (S2 : am_S) (σ2 ρ2 : xk_St), xc_R S2 σ2 → xm_R S2 ρ2 → am_okS S2 → xk_X K (xl_V D gc gm) (σ2, ρ2) 499 [(0, .ref b), (1, .ref (gc.1 0)), (2, .ref (gm.1 0)), (3, .int (nI i))] [] := by
        intro S2 σ2 ρ2 h1 h2 h3
        refine x_iinc 3 (nI (i + 5)) [(3, _), (0, _), (1, _), (2, _)] hE d_W_law_499 rfl (nI_add i 5) (by decide) rfl ?_
        refine x_goto hE d_W_law_502 ?_
        refine x_lv [1, 2, 3, 0] (lv' := [(0, _), (1, _), (2, _), (3, _)]) rfl ?_
        exact ih (i + 5) S2 σ2 ρ2 (by omega) (by omega) h1 h2 h3
      refine x_aload_n hE d_W_law_26 0 rfl ?_
      refine x_iload_n hE d_W_law_27 3 rfl ?_
      refine xl_sld hc (by omega) hL d_W_law_28 ?_
      refine x_bipush (nI 15) hE d_W_law_29 (by decide) ?_
      refine x_iand hE d_W_law_31 ?_
      obtain ⟨j, hj, ej⟩ := pk_andE (xs i) (m := nI 15) 4 (by decide)
      rw [ej]
      rcases (show j = 0 ∨ j = 1 ∨ j = 2 ∨ j = 3 ∨ j = 4 ∨ j = 5 ∨ j = 6 ∨ j = 7 ∨ j = 8 ∨ j = 9 ∨ j = 10 ∨ j = 11 ∨ j = 12 ∨ j = 13 ∨ j = 14 ∨ j = 15 by omega) with rfl | rfl | rfl | rfl | rfl | rfl | rfl | rfl | rfl | rfl | rfl | rfl | rfl | rfl | rfl | rfl
      · refine x_tabIn hE d_W_law_32 (x := nI 0) (off := 76) (tgt := 108) (by decide) (by decide) (by decide) (by decide) ?_
        have tail : ∀ (v : Int32), v = nI 0 ∨ v = nI 1 → (v = nI 0 ↔ xs (i + 2) = 0) → xk_X K (xl_V D gc gm) (σ, ρ) 127 [(0, .ref b), (1, .ref (gc.1 0)), (2, .ref (gm.1 0)), (3, .int (nI i))] [.int v, .int (xs (i + 1)), .ref (gc.1 0)] := by
          intro v hv hvx
          refine xl_F_wall hc d_W_law_127 (k_F_wall hR hS) (fun r τ hq => ?_)
          obtain ⟨rfl, c1⟩ := hq
          refine x_aload_n hE d_W_law_130 2 rfl ?_
          refine x_aload_n hE d_W_law_131 0 rfl ?_
          refine x_iload_n hE d_W_law_132 3 rfl ?_
          refine x_iconst (nI 1) hE d_W_law_133 (by decide) ?_
          refine xn_iadd hE d_W_law_134 ?_
          refine xl_sld hc (by omega) hL d_W_law_135 ?_
          refine x_aload_n hE d_W_law_136 0 rfl ?_
          refine x_iload_n hE d_W_law_137 3 rfl ?_
          refine x_iconst (nI 2) hE d_W_law_138 (by decide) ?_
          refine xn_iadd hE d_W_law_139 ?_
          refine xl_sld hc (by omega) hL d_W_law_140 ?_
          have fin : ∀ w : Int32, w = v → xk_X K (xl_V D gc gm) (τ, ρ) 149 [(0, .ref b), (1, .ref (gc.1 0)), (2, .ref (gm.1 0)), (3, .int (nI i))] [.int w, .int (xs (i + 1)), .ref (gm.1 0), .int (am_wall S (xs (i + 1)) v).1] := by
            intro w hw
            subst hw
            refine xl_M_wall hc d_W_law_149 (k_M_wall hM hS hv) (fun r τ2 hq => ?_)
            obtain ⟨rfl, c2⟩ := hq
            refine x_icmp_eq hE d_W_law_152 (fun _ => ?_) (fun h => absurd rfl h)
            exact next _ _ _ c1 c2 (am_ok_wall hS _ _)
          refine x_if_eq hE d_W_law_141 (fun h => ?_) (fun h => ?_)
          · refine x_iconst (nI 0) hE d_W_law_148 (by decide) ?_
            exact fin _ (hvx.mpr h).symm
          · refine x_iconst (nI 1) hE d_W_law_144 (by decide) ?_
            refine x_goto hE d_W_law_145 ?_
            exact fin _ (by rcases hv with e | e; exact absurd (hvx.mp e) h; exact e.symm)
        refine x_aload_n hE d_W_law_108 1 rfl ?_
        refine x_aload_n hE d_W_law_109 0 rfl ?_
        refine x_iload_n hE d_W_law_110 3 rfl ?_
        refine x_iconst (nI 1) hE d_W_law_111 (by decide) ?_
        refine xn_iadd hE d_W_law_112 ?_
        refine xl_sld hc (by omega) hL d_W_law_113 ?_
        refine x_aload_n hE d_W_law_114 0 rfl ?_
        refine x_iload_n hE d_W_law_115 3 rfl ?_
        refine x_iconst (nI 2) hE d_W_law_116 (by decide) ?_
        refine xn_iadd hE d_W_law_117 ?_
        refine xl_sld hc (by omega) hL d_W_law_118 ?_
        refine x_if_eq hE d_W_law_119 (fun h => ?_) (fun h => ?_)
        · refine x_iconst (nI 0) hE d_W_law_126 (by decide) ?_
          exact tail _ (Or.inl rfl) ⟨fun _ => h, fun _ => rfl⟩
        · refine x_iconst (nI 1) hE d_W_law_122 (by decide) ?_
          refine x_goto hE d_W_law_123 ?_
          exact tail _ (Or.inr rfl) ⟨fun q => absurd q (by decide), fun q => absurd q h⟩
      · refine x_tabIn hE d_W_law_32 (x := nI 1) (off := 125) (tgt := 157) (by decide) (by decide) (by decide) (by decide) ?_
        refine x_aload_n hE d_W_law_157 1 rfl ?_
        refine x_aload_n hE d_W_law_158 0 rfl ?_
        refine x_iload_n hE d_W_law_159 3 rfl ?_
        refine x_iconst (nI 1) hE d_W_law_160 (by decide) ?_
        refine xn_iadd hE d_W_law_161 ?_
        refine xl_sld hc (by omega) hL d_W_law_162 ?_
        refine x_aload_n hE d_W_law_163 0 rfl ?_
        refine x_iload_n hE d_W_law_164 3 rfl ?_
        refine x_iconst (nI 2) hE d_W_law_165 (by decide) ?_
        refine xn_iadd hE d_W_law_166 ?_
        refine xl_sld hc (by omega) hL d_W_law_167 ?_
        refine xl_F_unit hc d_W_law_168 (k_F_unit hR hS) (fun r τ hq => ?_)
        obtain ⟨rfl, c1⟩ := hq
        refine x_aload_n hE d_W_law_171 2 rfl ?_
        refine x_aload_n hE d_W_law_172 0 rfl ?_
        refine x_iload_n hE d_W_law_173 3 rfl ?_
        refine x_iconst (nI 1) hE d_W_law_174 (by decide) ?_
        refine xn_iadd hE d_W_law_175 ?_
        refine xl_sld hc (by omega) hL d_W_law_176 ?_
        refine x_aload_n hE d_W_law_177 0 rfl ?_
        refine x_iload_n hE d_W_law_178 3 rfl ?_
        refine x_iconst (nI 2) hE d_W_law_179 (by decide) ?_
        refine xn_iadd hE d_W_law_180 ?_
        refine xl_sld hc (by omega) hL d_W_law_181 ?_
        refine xl_M_unit hc d_W_law_182 (k_M_unit hM hS) (fun r τ2 hq => ?_)
        obtain ⟨rfl, c2⟩ := hq
        refine x_icmp_eq hE d_W_law_185 (fun _ => ?_) (fun h => absurd rfl h)
        exact next _ _ _ c1 c2 (am_ok_unit hS _ _)
      · refine x_tabIn hE d_W_law_32 (x := nI 2) (off := 158) (tgt := 190) (by decide) (by decide) (by decide) (by decide) ?_
        refine x_aload_n hE d_W_law_190 1 rfl ?_
        refine xl_F_begin hc d_W_law_191 (k_F_begin hR hS) (fun r τ hq => ?_)
        obtain ⟨rfl, c1⟩ := hq
        refine x_aload_n hE d_W_law_194 2 rfl ?_
        refine xl_M_begin hc d_W_law_195 (k_M_begin hM) (fun r τ2 hq => ?_)
        obtain ⟨rfl, c2⟩ := hq
        refine x_icmp_eq hE d_W_law_198 (fun _ => ?_) (fun h => absurd rfl h)
        exact next _ _ _ c1 c2 (am_ok_begin hS)
      · refine x_tabIn hE d_W_law_32 (x := nI 3) (off := 171) (tgt := 203) (by decide) (by decide) (by decide) (by decide) ?_
        refine x_aload_n hE d_W_law_203 1 rfl ?_
        refine x_aload_n hE d_W_law_204 0 rfl ?_
        refine x_iload_n hE d_W_law_205 3 rfl ?_
        refine x_iconst (nI 1) hE d_W_law_206 (by decide) ?_
        refine xn_iadd hE d_W_law_207 ?_
        refine xl_sld hc (by omega) hL d_W_law_208 ?_
        refine x_aload_n hE d_W_law_209 0 rfl ?_
        refine x_iload_n hE d_W_law_210 3 rfl ?_
        refine x_iconst (nI 2) hE d_W_law_211 (by decide) ?_
        refine xn_iadd hE d_W_law_212 ?_
        refine xl_sld hc (by omega) hL d_W_law_213 ?_
        refine x_aload_n hE d_W_law_214 0 rfl ?_
        refine x_iload_n hE d_W_law_215 3 rfl ?_
        refine x_iconst (nI 3) hE d_W_law_216 (by decide) ?_
        refine xn_iadd hE d_W_law_217 ?_
        refine xl_sld hc (by omega) hL d_W_law_218 ?_
        refine x_aload_n hE d_W_law_219 0 rfl ?_
        refine x_iload_n hE d_W_law_220 3 rfl ?_
        refine x_iconst (nI 4) hE d_W_law_221 (by decide) ?_
        refine xn_iadd hE d_W_law_222 ?_
        refine xl_sld hc (by omega) hL d_W_law_223 ?_
        refine xl_F_command hc d_W_law_224 (k_F_command hR hS) (fun r τ hq => ?_)
        obtain ⟨rfl, c1⟩ := hq
        refine x_aload_n hE d_W_law_227 2 rfl ?_
        refine x_aload_n hE d_W_law_228 0 rfl ?_
        refine x_iload_n hE d_W_law_229 3 rfl ?_
        refine x_iconst (nI 1) hE d_W_law_230 (by decide) ?_
        refine xn_iadd hE d_W_law_231 ?_
        refine xl_sld hc (by omega) hL d_W_law_232 ?_
        refine x_aload_n hE d_W_law_233 0 rfl ?_
        refine x_iload_n hE d_W_law_234 3 rfl ?_
        refine x_iconst (nI 2) hE d_W_law_235 (by decide) ?_
        refine xn_iadd hE d_W_law_236 ?_
        refine xl_sld hc (by omega) hL d_W_law_237 ?_
        refine x_aload_n hE d_W_law_238 0 rfl ?_
        refine x_iload_n hE d_W_law_239 3 rfl ?_
        refine x_iconst (nI 3) hE d_W_law_240 (by decide) ?_
        refine xn_iadd hE d_W_law_241 ?_
        refine xl_sld hc (by omega) hL d_W_law_242 ?_
        refine x_aload_n hE d_W_law_243 0 rfl ?_
        refine x_iload_n hE d_W_law_244 3 rfl ?_
        refine x_iconst (nI 4) hE d_W_law_245 (by decide) ?_
        refine xn_iadd hE d_W_law_246 ?_
        refine xl_sld hc (by omega) hL d_W_law_247 ?_
        refine xl_M_command hc d_W_law_248 (k_M_command hM hS) (fun r τ2 hq => ?_)
        obtain ⟨rfl, c2⟩ := hq
        refine x_icmp_eq hE d_W_law_251 (fun _ => ?_) (fun h => absurd rfl h)
        exact next _ _ _ c1 c2 (am_ok_command hS _ _ _ _)
      · refine x_tabIn hE d_W_law_32 (x := nI 4) (off := 224) (tgt := 256) (by decide) (by decide) (by decide) (by decide) ?_
        refine x_aload_n hE d_W_law_256 1 rfl ?_
        refine x_aload_n hE d_W_law_257 0 rfl ?_
        refine x_iload_n hE d_W_law_258 3 rfl ?_
        refine x_iconst (nI 1) hE d_W_law_259 (by decide) ?_
        refine xn_iadd hE d_W_law_260 ?_
        refine xl_sld hc (by omega) hL d_W_law_261 ?_
        refine xl_F_forget hc d_W_law_262 (k_F_forget hR hS) (fun r τ hq => ?_)
        obtain ⟨rfl, c1⟩ := hq
        refine x_aload_n hE d_W_law_265 2 rfl ?_
        refine x_aload_n hE d_W_law_266 0 rfl ?_
        refine x_iload_n hE d_W_law_267 3 rfl ?_
        refine x_iconst (nI 1) hE d_W_law_268 (by decide) ?_
        refine xn_iadd hE d_W_law_269 ?_
        refine xl_sld hc (by omega) hL d_W_law_270 ?_
        refine xl_M_forget hc d_W_law_271 (k_M_forget hM hS) (fun r τ2 hq => ?_)
        obtain ⟨rfl, c2⟩ := hq
        refine x_icmp_eq hE d_W_law_274 (fun _ => ?_) (fun h => absurd rfl h)
        exact next _ _ _ c1 c2 (am_ok_forget hS _)
      · refine x_tabIn hE d_W_law_32 (x := nI 5) (off := 247) (tgt := 279) (by decide) (by decide) (by decide) (by decide) ?_
        refine x_aload_n hE d_W_law_279 1 rfl ?_
        refine x_aload_n hE d_W_law_280 0 rfl ?_
        refine x_iload_n hE d_W_law_281 3 rfl ?_
        refine x_iconst (nI 1) hE d_W_law_282 (by decide) ?_
        refine xn_iadd hE d_W_law_283 ?_
        refine xl_sld hc (by omega) hL d_W_law_284 ?_
        refine xl_F_run hc d_W_law_285 (k_F_run hR hS) (fun r τ hq => ?_)
        obtain ⟨rfl, c1⟩ := hq
        refine x_aload_n hE d_W_law_288 2 rfl ?_
        refine x_aload_n hE d_W_law_289 0 rfl ?_
        refine x_iload_n hE d_W_law_290 3 rfl ?_
        refine x_iconst (nI 1) hE d_W_law_291 (by decide) ?_
        refine xn_iadd hE d_W_law_292 ?_
        refine xl_sld hc (by omega) hL d_W_law_293 ?_
        refine xl_M_run hc d_W_law_294 (k_M_run hM hS) (fun r τ2 hq => ?_)
        obtain ⟨rfl, c2⟩ := hq
        refine x_icmp_eq hE d_W_law_297 (fun _ => ?_) (fun h => absurd rfl h)
        exact next _ _ _ c1 c2 (am_ok_run hS _)
      · refine x_tabIn hE d_W_law_32 (x := nI 6) (off := 270) (tgt := 302) (by decide) (by decide) (by decide) (by decide) ?_
        refine x_aload_n hE d_W_law_302 1 rfl ?_
        refine xl_F_replay hc d_W_law_303 (k_F_replay hR hS) (fun r τ hq => ?_)
        obtain ⟨rfl, c1⟩ := hq
        refine x_aload_n hE d_W_law_306 2 rfl ?_
        refine xl_M_replay hc d_W_law_307 (k_M_replay hM hS) (fun r τ2 hq => ?_)
        obtain ⟨rfl, c2⟩ := hq
        refine x_icmp_eq hE d_W_law_310 (fun _ => ?_) (fun h => absurd rfl h)
        exact next _ _ _ c1 c2 hS
      · refine x_tabIn hE d_W_law_32 (x := nI 7) (off := 283) (tgt := 315) (by decide) (by decide) (by decide) (by decide) ?_
        refine x_aload_n hE d_W_law_315 1 rfl ?_
        refine x_aload_n hE d_W_law_316 0 rfl ?_
        refine x_iload_n hE d_W_law_317 3 rfl ?_
        refine x_iconst (nI 1) hE d_W_law_318 (by decide) ?_
        refine xn_iadd hE d_W_law_319 ?_
        refine xl_sld hc (by omega) hL d_W_law_320 ?_
        refine xl_F_number hc d_W_law_321 (k_F_number hR hS) (fun r τ hq => ?_)
        obtain ⟨rfl, c1⟩ := hq
        refine x_aload_n hE d_W_law_324 2 rfl ?_
        refine x_aload_n hE d_W_law_325 0 rfl ?_
        refine x_iload_n hE d_W_law_326 3 rfl ?_
        refine x_iconst (nI 1) hE d_W_law_327 (by decide) ?_
        refine xn_iadd hE d_W_law_328 ?_
        refine xl_sld hc (by omega) hL d_W_law_329 ?_
        refine xl_M_number hc d_W_law_330 (k_M_number hM hS) (fun r τ2 hq => ?_)
        obtain ⟨rfl, c2⟩ := hq
        refine x_icmp_eq hE d_W_law_333 (fun _ => ?_) (fun h => absurd rfl h)
        exact next _ _ _ c1 c2 hS
      · refine x_tabIn hE d_W_law_32 (x := nI 8) (off := 306) (tgt := 338) (by decide) (by decide) (by decide) (by decide) ?_
        refine x_aload_n hE d_W_law_338 1 rfl ?_
        refine x_aload_n hE d_W_law_339 0 rfl ?_
        refine x_iload_n hE d_W_law_340 3 rfl ?_
        refine x_iconst (nI 1) hE d_W_law_341 (by decide) ?_
        refine xn_iadd hE d_W_law_342 ?_
        refine xl_sld hc (by omega) hL d_W_law_343 ?_
        refine xl_F_tile hc d_W_law_344 (k_F_tile hR hS) (fun r τ hq => ?_)
        obtain ⟨rfl, c1⟩ := hq
        refine x_aload_n hE d_W_law_347 2 rfl ?_
        refine x_aload_n hE d_W_law_348 0 rfl ?_
        refine x_iload_n hE d_W_law_349 3 rfl ?_
        refine x_iconst (nI 1) hE d_W_law_350 (by decide) ?_
        refine xn_iadd hE d_W_law_351 ?_
        refine xl_sld hc (by omega) hL d_W_law_352 ?_
        refine xl_M_tile hc d_W_law_353 (k_M_tile hM hS) (fun r τ2 hq => ?_)
        obtain ⟨rfl, c2⟩ := hq
        refine x_icmp_eq hE d_W_law_356 (fun _ => ?_) (fun h => absurd rfl h)
        exact next _ _ _ c1 c2 hS
      · refine x_tabIn hE d_W_law_32 (x := nI 9) (off := 329) (tgt := 361) (by decide) (by decide) (by decide) (by decide) ?_
        refine x_aload_n hE d_W_law_361 1 rfl ?_
        refine x_aload_n hE d_W_law_362 0 rfl ?_
        refine x_iload_n hE d_W_law_363 3 rfl ?_
        refine x_iconst (nI 1) hE d_W_law_364 (by decide) ?_
        refine xn_iadd hE d_W_law_365 ?_
        refine xl_sld hc (by omega) hL d_W_law_366 ?_
        refine xl_F_points hc d_W_law_367 (k_F_points hR hS) (fun r τ hq => ?_)
        obtain ⟨rfl, c1⟩ := hq
        refine x_aload_n hE d_W_law_370 2 rfl ?_
        refine x_aload_n hE d_W_law_371 0 rfl ?_
        refine x_iload_n hE d_W_law_372 3 rfl ?_
        refine x_iconst (nI 1) hE d_W_law_373 (by decide) ?_
        refine xn_iadd hE d_W_law_374 ?_
        refine xl_sld hc (by omega) hL d_W_law_375 ?_
        refine xl_M_points hc d_W_law_376 (k_M_points hM hS) (fun r τ2 hq => ?_)
        obtain ⟨rfl, c2⟩ := hq
        refine x_icmp_eq hE d_W_law_379 (fun _ => ?_) (fun h => absurd rfl h)
        exact next _ _ _ c1 c2 hS
      · refine x_tabIn hE d_W_law_32 (x := nI 10) (off := 352) (tgt := 384) (by decide) (by decide) (by decide) (by decide) ?_
        refine x_aload_n hE d_W_law_384 1 rfl ?_
        refine x_aload_n hE d_W_law_385 0 rfl ?_
        refine x_iload_n hE d_W_law_386 3 rfl ?_
        refine x_iconst (nI 1) hE d_W_law_387 (by decide) ?_
        refine xn_iadd hE d_W_law_388 ?_
        refine xl_sld hc (by omega) hL d_W_law_389 ?_
        refine xl_F_order hc d_W_law_390 (k_F_order hR hS) (fun r τ hq => ?_)
        obtain ⟨rfl, c1⟩ := hq
        refine x_aload_n hE d_W_law_393 2 rfl ?_
        refine x_aload_n hE d_W_law_394 0 rfl ?_
        refine x_iload_n hE d_W_law_395 3 rfl ?_
        refine x_iconst (nI 1) hE d_W_law_396 (by decide) ?_
        refine xn_iadd hE d_W_law_397 ?_
        refine xl_sld hc (by omega) hL d_W_law_398 ?_
        refine xl_M_order hc d_W_law_399 (k_M_order hM hS) (fun r τ2 hq => ?_)
        obtain ⟨rfl, c2⟩ := hq
        refine x_icmp_eq hE d_W_law_402 (fun _ => ?_) (fun h => absurd rfl h)
        exact next _ _ _ c1 c2 hS
      · refine x_tabIn hE d_W_law_32 (x := nI 11) (off := 375) (tgt := 407) (by decide) (by decide) (by decide) (by decide) ?_
        refine x_aload_n hE d_W_law_407 1 rfl ?_
        refine x_aload_n hE d_W_law_408 0 rfl ?_
        refine x_iload_n hE d_W_law_409 3 rfl ?_
        refine x_iconst (nI 1) hE d_W_law_410 (by decide) ?_
        refine xn_iadd hE d_W_law_411 ?_
        refine xl_sld hc (by omega) hL d_W_law_412 ?_
        refine x_aload_n hE d_W_law_413 0 rfl ?_
        refine x_iload_n hE d_W_law_414 3 rfl ?_
        refine x_iconst (nI 2) hE d_W_law_415 (by decide) ?_
        refine xn_iadd hE d_W_law_416 ?_
        refine xl_sld hc (by omega) hL d_W_law_417 ?_
        refine xl_F_path hc d_W_law_418 (k_F_path hR hS) (fun r τ hq => ?_)
        obtain ⟨rfl, c1⟩ := hq
        refine x_aload_n hE d_W_law_421 2 rfl ?_
        refine x_aload_n hE d_W_law_422 0 rfl ?_
        refine x_iload_n hE d_W_law_423 3 rfl ?_
        refine x_iconst (nI 1) hE d_W_law_424 (by decide) ?_
        refine xn_iadd hE d_W_law_425 ?_
        refine xl_sld hc (by omega) hL d_W_law_426 ?_
        refine x_aload_n hE d_W_law_427 0 rfl ?_
        refine x_iload_n hE d_W_law_428 3 rfl ?_
        refine x_iconst (nI 2) hE d_W_law_429 (by decide) ?_
        refine xn_iadd hE d_W_law_430 ?_
        refine xl_sld hc (by omega) hL d_W_law_431 ?_
        refine xl_M_path hc d_W_law_432 (k_M_path hM hS) (fun r τ2 hq => ?_)
        obtain ⟨rfl, c2⟩ := hq
        refine x_icmp_eq hE d_W_law_435 (fun _ => ?_) (fun h => absurd rfl h)
        exact next _ _ _ c1 c2 hS
      · refine x_tabIn hE d_W_law_32 (x := nI 12) (off := 408) (tgt := 440) (by decide) (by decide) (by decide) (by decide) ?_
        refine x_aload_n hE d_W_law_440 1 rfl ?_
        refine xl_F_entries hc d_W_law_441 (k_F_entries hR) (fun r τ hq => ?_)
        obtain ⟨rfl, c1⟩ := hq
        refine x_aload_n hE d_W_law_444 2 rfl ?_
        refine xl_M_entries hc d_W_law_445 (k_M_entries hM) (fun r τ2 hq => ?_)
        obtain ⟨rfl, c2⟩ := hq
        refine x_icmp_eq hE d_W_law_448 (fun _ => ?_) (fun h => absurd rfl h)
        exact next _ _ _ c1 c2 hS
      · refine x_tabIn hE d_W_law_32 (x := nI 13) (off := 421) (tgt := 453) (by decide) (by decide) (by decide) (by decide) ?_
        refine x_aload_n hE d_W_law_453 1 rfl ?_
        refine x_aload_n hE d_W_law_454 0 rfl ?_
        refine x_iload_n hE d_W_law_455 3 rfl ?_
        refine x_iconst (nI 1) hE d_W_law_456 (by decide) ?_
        refine xn_iadd hE d_W_law_457 ?_
        refine xl_sld hc (by omega) hL d_W_law_458 ?_
        refine x_aload_n hE d_W_law_459 0 rfl ?_
        refine x_iload_n hE d_W_law_460 3 rfl ?_
        refine x_iconst (nI 2) hE d_W_law_461 (by decide) ?_
        refine xn_iadd hE d_W_law_462 ?_
        refine xl_sld hc (by omega) hL d_W_law_463 ?_
        refine xl_F_steps hc d_W_law_464 (k_F_steps hR hS) (fun r τ hq => ?_)
        obtain ⟨rfl, c1⟩ := hq
        refine x_aload_n hE d_W_law_467 2 rfl ?_
        refine x_aload_n hE d_W_law_468 0 rfl ?_
        refine x_iload_n hE d_W_law_469 3 rfl ?_
        refine x_iconst (nI 1) hE d_W_law_470 (by decide) ?_
        refine xn_iadd hE d_W_law_471 ?_
        refine xl_sld hc (by omega) hL d_W_law_472 ?_
        refine x_aload_n hE d_W_law_473 0 rfl ?_
        refine x_iload_n hE d_W_law_474 3 rfl ?_
        refine x_iconst (nI 2) hE d_W_law_475 (by decide) ?_
        refine xn_iadd hE d_W_law_476 ?_
        refine xl_sld hc (by omega) hL d_W_law_477 ?_
        refine xl_M_steps hc d_W_law_478 (k_M_steps hM hS) (fun r τ2 hq => ?_)
        obtain ⟨rfl, c2⟩ := hq
        refine x_icmp_eq hE d_W_law_481 (fun _ => ?_) (fun h => absurd rfl h)
        exact next _ _ _ c1 c2 hS
      · refine x_tabIn hE d_W_law_32 (x := nI 14) (off := 454) (tgt := 486) (by decide) (by decide) (by decide) (by decide) ?_
        refine x_aload_n hE d_W_law_486 1 rfl ?_
        refine xl_F_winner hc d_W_law_487 (k_F_winner hR hS) (fun r τ hq => ?_)
        obtain ⟨rfl, c1⟩ := hq
        refine x_aload_n hE d_W_law_490 2 rfl ?_
        refine xl_M_winner hc d_W_law_491 (k_M_winner hM hS) (fun r τ2 hq => ?_)
        obtain ⟨rfl, c2⟩ := hq
        refine x_icmp_eq hE d_W_law_494 (fun _ => ?_) (fun h => absurd rfl h)
        exact next _ _ _ c1 c2 hS
      · refine x_tabOut hE d_W_law_32 (x := nI 15) (tgt := 499) (Or.inr (by decide)) (by decide) ?_
        exact next S σ ρ hR hM hS
end XLw
