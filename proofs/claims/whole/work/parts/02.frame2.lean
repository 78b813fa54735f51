/-! THE FRAME, second part: heap, returns, calls; numbers by nI -/
section XN
variable {S : Type} {K : xk_K} {V : xk_V S} {σ : S} {cc : ByteArray} {nL pc pc' tgt : Nat} {off : Int} {lv lv' : List (Nat × Value)} {st : List Value}
theorem xn_icmp_eq {a b : Nat} (hc : xk_E K cc nL) (hd : xk_b cc pc (.if_icmp .eq off) pc' off tgt) (kt : a = b → xk_X K V σ tgt lv st) (kf : a ≠ b → xk_X K V σ pc' lv st) (ha : a < 2 ^ 31 := by omega) (hb : b < 2 ^ 31 := by omega) : xk_X K V σ pc lv (.int (nI b) :: .int (nI a) :: st) :=
  x_icmp_eq hc hd (fun q => kt ((nI_eq ha hb).mp q)) (fun q => kf (fun z => q ((nI_eq ha hb).mpr z)))
theorem xn_icmp_ne {a b : Nat} (hc : xk_E K cc nL) (hd : xk_b cc pc (.if_icmp .ne off) pc' off tgt) (kt : a ≠ b → xk_X K V σ tgt lv st) (kf : a = b → xk_X K V σ pc' lv st) (ha : a < 2 ^ 31 := by omega) (hb : b < 2 ^ 31 := by omega) : xk_X K V σ pc lv (.int (nI b) :: .int (nI a) :: st) :=
  x_icmp_ne hc hd (fun q => kt (fun z => q ((nI_eq ha hb).mpr z))) (fun q => kf ((nI_eq ha hb).mp q))
theorem xn_icmp_lt {a b : Nat} (hc : xk_E K cc nL) (hd : xk_b cc pc (.if_icmp .lt off) pc' off tgt) (kt : a < b → xk_X K V σ tgt lv st) (kf : b ≤ a → xk_X K V σ pc' lv st) (ha : a < 2 ^ 31 := by omega) (hb : b < 2 ^ 31 := by omega) : xk_X K V σ pc lv (.int (nI b) :: .int (nI a) :: st) :=
  x_icmp_lt hc hd (fun q => kt ((nI_ltI ha hb).mp q)) (fun q => kf (by rw [nI_ltI ha hb] at q; omega))
theorem xn_icmp_ge {a b : Nat} (hc : xk_E K cc nL) (hd : xk_b cc pc (.if_icmp .ge off) pc' off tgt) (kt : b ≤ a → xk_X K V σ tgt lv st) (kf : a < b → xk_X K V σ pc' lv st) (ha : a < 2 ^ 31 := by omega) (hb : b < 2 ^ 31 := by omega) : xk_X K V σ pc lv (.int (nI b) :: .int (nI a) :: st) :=
  x_icmp_ge hc hd (fun q => kt ((nI_leI hb ha).mp q)) (fun q => kf (by rw [nI_leI hb ha] at q; omega))
theorem xn_icmp_gt {a b : Nat} (hc : xk_E K cc nL) (hd : xk_b cc pc (.if_icmp .gt off) pc' off tgt) (kt : b < a → xk_X K V σ tgt lv st) (kf : a ≤ b → xk_X K V σ pc' lv st) (ha : a < 2 ^ 31 := by omega) (hb : b < 2 ^ 31 := by omega) : xk_X K V σ pc lv (.int (nI b) :: .int (nI a) :: st) :=
  x_icmp_gt hc hd (fun q => kt ((nI_ltI hb ha).mp q)) (fun q => kf (by rw [nI_ltI hb ha] at q; omega))
theorem xn_icmp_le {a b : Nat} (hc : xk_E K cc nL) (hd : xk_b cc pc (.if_icmp .le off) pc' off tgt) (kt : a ≤ b → xk_X K V σ tgt lv st) (kf : b < a → xk_X K V σ pc' lv st) (ha : a < 2 ^ 31 := by omega) (hb : b < 2 ^ 31 := by omega) : xk_X K V σ pc lv (.int (nI b) :: .int (nI a) :: st) :=
  x_icmp_le hc hd (fun q => kt ((nI_leI ha hb).mp q)) (fun q => kf (by rw [nI_leI ha hb] at q; omega))
theorem xn_z {a : Nat} (h : a < 2 ^ 31) : (nI a = 0 ↔ a = 0) ∧ (nI a < 0 ↔ False) ∧ (0 ≤ nI a ↔ True) ∧ (0 < nI a ↔ 0 < a) ∧ (nI a ≤ 0 ↔ a = 0) := by
  have h0 : (0 : Nat) < 2 ^ 31 := by decide
  refine ⟨?_, ?_, ?_, ?_, ?_⟩
  · rw [← nI_0]; exact nI_eq h h0
  · rw [← nI_0, nI_ltI h h0]; exact ⟨fun q => absurd q (Nat.not_lt_zero _), False.elim⟩
  · rw [← nI_0, nI_leI h0 h]; exact ⟨fun _ => trivial, fun _ => Nat.zero_le _⟩
  · rw [← nI_0]; exact nI_ltI h0 h
  · rw [← nI_0, nI_leI h h0]; omega
theorem xn_if_eq {a : Nat} (hc : xk_E K cc nL) (hd : xk_b cc pc (.ifCond .eq off) pc' off tgt) (kt : a = 0 → xk_X K V σ tgt lv st) (kf : a ≠ 0 → xk_X K V σ pc' lv st) (ha : a < 2 ^ 31 := by omega) : xk_X K V σ pc lv (.int (nI a) :: st) :=
  x_if_eq hc hd (fun q => kt ((xn_z ha).1.mp q)) (fun q => kf (fun z => q ((xn_z ha).1.mpr z)))
theorem xn_if_ne {a : Nat} (hc : xk_E K cc nL) (hd : xk_b cc pc (.ifCond .ne off) pc' off tgt) (kt : a ≠ 0 → xk_X K V σ tgt lv st) (kf : a = 0 → xk_X K V σ pc' lv st) (ha : a < 2 ^ 31 := by omega) : xk_X K V σ pc lv (.int (nI a) :: st) :=
  x_if_ne hc hd (fun q => kt (fun z => q ((xn_z ha).1.mpr z))) (fun q => kf ((xn_z ha).1.mp q))
theorem xn_if_lt {a : Nat} (hc : xk_E K cc nL) (hd : xk_b cc pc (.ifCond .lt off) pc' off tgt) (kt : False → xk_X K V σ tgt lv st) (kf : True → xk_X K V σ pc' lv st) (ha : a < 2 ^ 31 := by omega) : xk_X K V σ pc lv (.int (nI a) :: st) :=
  x_if_lt hc hd (fun q => kt ((xn_z ha).2.1.mp q)) (fun q => kf (trivial))
theorem xn_if_ge {a : Nat} (hc : xk_E K cc nL) (hd : xk_b cc pc (.ifCond .ge off) pc' off tgt) (kt : True → xk_X K V σ tgt lv st) (kf : False → xk_X K V σ pc' lv st) (ha : a < 2 ^ 31 := by omega) : xk_X K V σ pc lv (.int (nI a) :: st) :=
  x_if_ge hc hd (fun q => kt (trivial)) (fun q => kf (q ((xn_z ha).2.2.1.mpr trivial)))
theorem xn_if_gt {a : Nat} (hc : xk_E K cc nL) (hd : xk_b cc pc (.ifCond .gt off) pc' off tgt) (kt : 0 < a → xk_X K V σ tgt lv st) (kf : a = 0 → xk_X K V σ pc' lv st) (ha : a < 2 ^ 31 := by omega) : xk_X K V σ pc lv (.int (nI a) :: st) :=
  x_if_gt hc hd (fun q => kt ((xn_z ha).2.2.2.1.mp q)) (fun q => kf (by rw [(xn_z ha).2.2.2.1] at q; omega))
theorem xn_if_le {a : Nat} (hc : xk_E K cc nL) (hd : xk_b cc pc (.ifCond .le off) pc' off tgt) (kt : a = 0 → xk_X K V σ tgt lv st) (kf : 0 < a → xk_X K V σ pc' lv st) (ha : a < 2 ^ 31 := by omega) : xk_X K V σ pc lv (.int (nI a) :: st) :=
  x_if_le hc hd (fun q => kt ((xn_z ha).2.2.2.2.mp q)) (fun q => kf (by rw [(xn_z ha).2.2.2.2] at q; omega))
theorem nI_inc (a : Nat) : nI a + Int32.ofInt 1 = nI (a + 1) := nI_1 a
theorem nI_dec (a : Nat) (h : 0 < a) : nI a + Int32.ofInt (-1) = nI (a - 1) := sb_m1 h
theorem xn_iadd {a b : Nat} (hc : xk_E K cc nL) (hd : xk_d cc pc .iadd 1 pc') (k : xk_X K V σ pc' lv (.int (nI (a + b)) :: st)) : xk_X K V σ pc lv (.int (nI b) :: .int (nI a) :: st) := x_iadd hc hd (by rw [nI_add]; exact k)
theorem xn_isub {a b : Nat} (hc : xk_E K cc nL) (hd : xk_d cc pc .isub 1 pc') (k : xk_X K V σ pc' lv (.int (nI (a - b)) :: st)) (h : b ≤ a := by omega) : xk_X K V σ pc lv (.int (nI b) :: .int (nI a) :: st) := x_isub hc hd (by rw [pk_sub h]; exact k)
theorem xn_imul {a b : Nat} (hc : xk_E K cc nL) (hd : xk_d cc pc .imul 1 pc') (k : xk_X K V σ pc' lv (.int (nI (a * b)) :: st)) : xk_X K V σ pc lv (.int (nI b) :: .int (nI a) :: st) := x_imul hc hd (by rw [pk_mul]; exact k)
theorem xn_idiv {a b : Nat} (hc : xk_E K cc nL) (hd : xk_d cc pc .idiv 1 pc') (k : xk_X K V σ pc' lv (.int (nI (a / b)) :: st)) (ha : a < 2 ^ 31 := by omega) (h0 : 0 < b := by omega) (hb : b < 2 ^ 31 := by omega) : xk_X K V σ pc lv (.int (nI b) :: .int (nI a) :: st) := x_idiv hc hd (nI_ne0 h0 hb) (by rw [pk_div ha h0 hb]; exact k)
theorem xn_irem {a b : Nat} (hc : xk_E K cc nL) (hd : xk_d cc pc .irem 1 pc') (k : xk_X K V σ pc' lv (.int (nI (a % b)) :: st)) (ha : a < 2 ^ 31 := by omega) (h0 : 0 < b := by omega) (hb : b < 2 ^ 31 := by omega) : xk_X K V σ pc lv (.int (nI b) :: .int (nI a) :: st) := x_irem hc hd (nI_ne0 h0 hb) (by rw [pk_rem ha h0 hb]; exact k)
end XN
section XH
variable {K : xk_K} {w : xk_w} {σ : xk_St} {cc : ByteArray} {nL d pc pc' : Nat} {own : String} {ret : Option FieldType} {P : Option Value → xk_St → Prop} {lv : List (Nat × Value)} {st : List Value}
/-- a kind among the world's, with all that the tables say of it -/
def xk_Cl (w : xk_w) (ci : Nat) (C : String) (T : u_T) (N : Nat) (ty : Nat → FieldType) : Prop := (∀ v ∈ u_ws C T N, v ∈ xk_wT w) ∧ (xk_wC w)[ci]? = some (C, T, N) ∧ (∀ k, k < N → parseFieldDescriptor (T k).2.2.1 = some (ty k)) ∧ (∀ a, a < N → ∀ b, b < N → a ≠ b → (T a).2.1 ≠ (T b).2.1)
theorem x_get {C : String} {T : u_T} {N ci idx k : Nat} {ty : Nat → FieldType} {fks : List xk_FK} {f : xk_FK} (j : Nat) (hc : xk_H K w cc nL own d ret P) (hC : xk_Cl w ci C T N ty) (hj : j < N) (hlink : Cond.fieldLink own idx (T j).1 (T j).2.1 (T j).2.2.1 ∈ (xk_wT w)) (hsh : (xk_wS w)[k]? = some (.inr (ci, fks))) (hf : fks[j]? = some f) (hd : xk_d cc pc (.getfield idx) 3 pc') (kk : xk_X K (xk_vw w) σ pc' lv (xk_fv (xk_wG w).1 σ k j f :: st)) : xk_X K (xk_vw w) σ pc lv (.ref (xk_wA w k) :: st) := by
  obtain ⟨p, l, e, R, s, m, args, below, meth, c, A, cells, slots, Q⟩ := K
  obtain ⟨hd, rfl⟩ := hd
  intro H locs ls hP hD hS h
  exact va_get (D := xk_wD w) (cl := xk_wC w) (ws := xk_ws w σ) hc.1.1 hc.1.2.1 hc.1.2.2.2.2 hC.1 hc.1.2.2.2.1 hc.2.1.1 hP k (xk_wl_at hsh) hC.2.1 j hj (hc.1.2.2.2.2 _ hlink) (fun _ h => h) (by rw [xk_fs_at, hf]; simp) hd (kk H locs ls hP hD hS h)
theorem x_put {C : String} {T : u_T} {N ci idx k : Nat} {ty : Nat → FieldType} {fks : List xk_FK} {v : Int32} (j : Nat) (hc : xk_H K w cc nL own d ret P) (hC : xk_Cl w ci C T N ty) (hj : j < N) (hlink : Cond.fieldLink own idx (T j).1 (T j).2.1 (T j).2.2.1 ∈ (xk_wT w)) (hfin : (T j).2.2.2 = false) (hsh : (xk_wS w)[k]? = some (.inr (ci, fks))) (hf : fks[j]? = some (.inl none)) (hn : narrow (ty j) (.int v) = .int v ∧ fits (ty j) (.int v) = true) (hd : xk_d cc pc (.putfield idx) 3 pc') (kk : xk_X K (xk_vw w) (xk_up σ k j v) pc' lv st) : xk_X K (xk_vw w) σ pc lv (.int v :: .ref (xk_wA w k) :: st) := by
  obtain ⟨p, l, e, R, s, m, args, below, meth, c, A, cells, slots, Q⟩ := K
  obtain ⟨hd, rfl⟩ := hd
  intro H locs ls hP hD hS h
  have hl : j < (xk_fs (xk_wG w).1 σ k 0 fks).length := (List.getElem?_eq_some_iff.mp (show (xk_fs (xk_wG w).1 σ k 0 fks)[j]? = some _ by rw [xk_fs_at, hf]; rfl)).1
  have e1 : (xk_ws w σ).set k (xk_wA w k, .inr (ci, (xk_fs (xk_wG w).1 σ k 0 fks).set j (.int v))) = xk_ws w (xk_up σ k j v) := by
    rw [xk_fs_put v hf]
    exact xk_wl_set (sh := .inr (ci, fks)) hsh (fun i h => xk_up_ne i h)
  refine va_put (D := xk_wD w) (cl := xk_wC w) (ws := xk_ws w σ) hc.1.1 hc.1.2.1 hc.1.2.2.2.2 hC.1 ty hC.2.2.1 hC.2.2.2 hc.1.2.2.2.1 hc.2.1.1 hP hD hS k (xk_wl_at hsh) hC.2.1 j hj (hc.1.2.2.2.2 _ hlink) (fun _ h => h) hfin (hC.2.2.1 j hj) hn.1 hn.2 hl hd (fun H1 locs1 hP1 hD1 hS1 => ?_)
  rw [e1] at hP1 hD1
  exact kk H1 locs1 ls hP1 hD1 hS1 h
theorem x_putL {C : String} {T : u_T} {N ci idx k : Nat} {ty : Nat → FieldType} {fks : List xk_FK} {v : Int64} (j : Nat) (hc : xk_H K w cc nL own d ret P) (hC : xk_Cl w ci C T N ty) (hj : j < N) (hlink : Cond.fieldLink own idx (T j).1 (T j).2.1 (T j).2.2.1 ∈ (xk_wT w)) (hfin : (T j).2.2.2 = false) (hsh : (xk_wS w)[k]? = some (.inr (ci, fks))) (hf : fks[j]? = some (.inr ())) (hn : narrow (ty j) (.long v) = .long v ∧ fits (ty j) (.long v) = true) (hd : xk_d cc pc (.putfield idx) 3 pc') (kk : xk_X K (xk_vw w) (xk_upL σ k j v) pc' lv st) : xk_X K (xk_vw w) σ pc lv (.long v :: .ref (xk_wA w k) :: st) := by
  obtain ⟨p, l, e, R, s, m, args, below, meth, c, A, cells, slots, Q⟩ := K
  obtain ⟨hd, rfl⟩ := hd
  intro H locs ls hP hD hS h
  have hl : j < (xk_fs (xk_wG w).1 σ k 0 fks).length := (List.getElem?_eq_some_iff.mp (show (xk_fs (xk_wG w).1 σ k 0 fks)[j]? = some _ by rw [xk_fs_at, hf]; rfl)).1
  have e1 : (xk_ws w σ).set k (xk_wA w k, .inr (ci, (xk_fs (xk_wG w).1 σ k 0 fks).set j (.long v))) = xk_ws w (xk_upL σ k j v) := by
    rw [xk_fs_putL v hf]
    exact xk_wl_set (sh := .inr (ci, fks)) hsh (fun i h => xk_upL_ne i h)
  refine va_put (D := xk_wD w) (cl := xk_wC w) (ws := xk_ws w σ) hc.1.1 hc.1.2.1 hc.1.2.2.2.2 hC.1 ty hC.2.2.1 hC.2.2.2 hc.1.2.2.2.1 hc.2.1.1 hP hD hS k (xk_wl_at hsh) hC.2.1 j hj (hc.1.2.2.2.2 _ hlink) (fun _ h => h) hfin (hC.2.2.1 j hj) hn.1 hn.2 hl hd (fun H1 locs1 hP1 hD1 hS1 => ?_)
  rw [e1] at hP1 hD1
  exact kk H1 locs1 ls hP1 hD1 hS1 h
theorem x_getN {host : String} {C : String} {T : u_T} {N ci idx k : Nat} {ty : Nat → FieldType} {fks : List xk_FK} {f : xk_FK} (j : Nat) (hc : xk_H K w cc nL own d ret P) (hC : xk_Cl w ci C T N ty) (hj : j < N) (hlink : Cond.fieldLinkNest own idx (T j).1 (T j).2.1 (T j).2.2.1 host ∈ (xk_wN w)) (hsh : (xk_wS w)[k]? = some (.inr (ci, fks))) (hf : fks[j]? = some f) (hd : xk_d cc pc (.getfield idx) 3 pc') (kk : xk_X K (xk_vw w) σ pc' lv (xk_fv (xk_wG w).1 σ k j f :: st)) : xk_X K (xk_vw w) σ pc lv (.ref (xk_wA w k) :: st) := by
  obtain ⟨p, l, e, R, s, m, args, below, meth, c, A, cells, slots, Q⟩ := K
  obtain ⟨hd, rfl⟩ := hd
  intro H locs ls hP hD hS h
  exact va_getN (D := xk_wD w) (cl := xk_wC w) (ws := xk_ws w σ) hc.1.1 hc.1.2.1 hc.1.2.2.2.2 hC.1 hc.1.2.2.2.1 hc.2.1.1 hP k (xk_wl_at hsh) hC.2.1 j hj (hc.2.1.n hlink) (fun _ h => h) (by rw [xk_fs_at, hf]; simp) hd (kk H locs ls hP hD hS h)
theorem x_putN {host : String} {C : String} {T : u_T} {N ci idx k : Nat} {ty : Nat → FieldType} {fks : List xk_FK} {v : Int32} (j : Nat) (hc : xk_H K w cc nL own d ret P) (hC : xk_Cl w ci C T N ty) (hj : j < N) (hlink : Cond.fieldLinkNest own idx (T j).1 (T j).2.1 (T j).2.2.1 host ∈ (xk_wN w)) (hfin : (T j).2.2.2 = false) (hsh : (xk_wS w)[k]? = some (.inr (ci, fks))) (hf : fks[j]? = some (.inl none)) (hn : narrow (ty j) (.int v) = .int v ∧ fits (ty j) (.int v) = true) (hd : xk_d cc pc (.putfield idx) 3 pc') (kk : xk_X K (xk_vw w) (xk_up σ k j v) pc' lv st) : xk_X K (xk_vw w) σ pc lv (.int v :: .ref (xk_wA w k) :: st) := by
  obtain ⟨p, l, e, R, s, m, args, below, meth, c, A, cells, slots, Q⟩ := K
  obtain ⟨hd, rfl⟩ := hd
  intro H locs ls hP hD hS h
  have hl : j < (xk_fs (xk_wG w).1 σ k 0 fks).length := (List.getElem?_eq_some_iff.mp (show (xk_fs (xk_wG w).1 σ k 0 fks)[j]? = some _ by rw [xk_fs_at, hf]; rfl)).1
  have e1 : (xk_ws w σ).set k (xk_wA w k, .inr (ci, (xk_fs (xk_wG w).1 σ k 0 fks).set j (.int v))) = xk_ws w (xk_up σ k j v) := by
    rw [xk_fs_put v hf]
    exact xk_wl_set (sh := .inr (ci, fks)) hsh (fun i h => xk_up_ne i h)
  refine va_putN (D := xk_wD w) (cl := xk_wC w) (ws := xk_ws w σ) hc.1.1 hc.1.2.1 hc.1.2.2.2.2 hC.1 ty hC.2.2.1 hC.2.2.2 hc.1.2.2.2.1 hc.2.1.1 hP hD hS k (xk_wl_at hsh) hC.2.1 j hj (hc.2.1.n hlink) (fun _ h => h) hfin (hC.2.2.1 j hj) hn.1 hn.2 hl hd (fun H1 locs1 hP1 hD1 hS1 => ?_)
  rw [e1] at hP1 hD1
  exact kk H1 locs1 ls hP1 hD1 hS1 h
theorem x_putLN {host : String} {C : String} {T : u_T} {N ci idx k : Nat} {ty : Nat → FieldType} {fks : List xk_FK} {v : Int64} (j : Nat) (hc : xk_H K w cc nL own d ret P) (hC : xk_Cl w ci C T N ty) (hj : j < N) (hlink : Cond.fieldLinkNest own idx (T j).1 (T j).2.1 (T j).2.2.1 host ∈ (xk_wN w)) (hfin : (T j).2.2.2 = false) (hsh : (xk_wS w)[k]? = some (.inr (ci, fks))) (hf : fks[j]? = some (.inr ())) (hn : narrow (ty j) (.long v) = .long v ∧ fits (ty j) (.long v) = true) (hd : xk_d cc pc (.putfield idx) 3 pc') (kk : xk_X K (xk_vw w) (xk_upL σ k j v) pc' lv st) : xk_X K (xk_vw w) σ pc lv (.long v :: .ref (xk_wA w k) :: st) := by
  obtain ⟨p, l, e, R, s, m, args, below, meth, c, A, cells, slots, Q⟩ := K
  obtain ⟨hd, rfl⟩ := hd
  intro H locs ls hP hD hS h
  have hl : j < (xk_fs (xk_wG w).1 σ k 0 fks).length := (List.getElem?_eq_some_iff.mp (show (xk_fs (xk_wG w).1 σ k 0 fks)[j]? = some _ by rw [xk_fs_at, hf]; rfl)).1
  have e1 : (xk_ws w σ).set k (xk_wA w k, .inr (ci, (xk_fs (xk_wG w).1 σ k 0 fks).set j (.long v))) = xk_ws w (xk_upL σ k j v) := by
    rw [xk_fs_putL v hf]
    exact xk_wl_set (sh := .inr (ci, fks)) hsh (fun i h => xk_upL_ne i h)
  refine va_putN (D := xk_wD w) (cl := xk_wC w) (ws := xk_ws w σ) hc.1.1 hc.1.2.1 hc.1.2.2.2.2 hC.1 ty hC.2.2.1 hC.2.2.2 hc.1.2.2.2.1 hc.2.1.1 hP hD hS k (xk_wl_at hsh) hC.2.1 j hj (hc.2.1.n hlink) (fun _ h => h) hfin (hC.2.2.1 j hj) hn.1 hn.2 hl hd (fun H1 locs1 hP1 hD1 hS1 => ?_)
  rw [e1] at hP1 hD1
  exact kk H1 locs1 ls hP1 hD1 hS1 h
theorem x_iald {k n i : Nat} {x : Int32} (hc : xk_H K w cc nL own d ret P) (hsh : (xk_wS w)[k]? = some (.inl (0, n))) (hx : x = nI i) (hi : i < n) (hn : n < 2 ^ 31) (hd : xk_d cc pc .iaload 1 pc') {v : Int32} (hv : σ.1 k i = v) (kk : xk_X K (xk_vw w) σ pc' lv (.int v :: st)) : xk_X K (xk_vw w) σ pc lv (.int x :: .ref (xk_wA w k) :: st) := by
  obtain ⟨p, l, e, R, s, m, args, below, meth, c, A, cells, slots, Q⟩ := K
  obtain ⟨hd, rfl⟩ := hd
  intro H locs ls hP hD hS h
  subst hx
  refine va_iald (D := xk_wD w) (cl := xk_wC w) (ws := xk_ws w σ) (f := σ.1 k) hc.1.1 hc.1.2.1 (hc.2.1.k hsh) hP k 0 (xk_wl_at hsh) rfl (vp_in_nI hi hn) hd ?_
  rw [nI_clamp (Nat.lt_trans hi hn), hv]
  exact kk H locs ls hP hD hS h
theorem x_zald {k n i : Nat} {x : Int32} (hc : xk_H K w cc nL own d ret P) (hsh : (xk_wS w)[k]? = some (.inl (1, n))) (hx : x = nI i) (hi : i < n) (hn : n < 2 ^ 31) (hd : xk_d cc pc .baload 1 pc') {v : Int32} (hv : σ.1 k i = v) (kk : xk_X K (xk_vw w) σ pc' lv (.int v :: st)) : xk_X K (xk_vw w) σ pc lv (.int x :: .ref (xk_wA w k) :: st) := by
  obtain ⟨p, l, e, R, s, m, args, below, meth, c, A, cells, slots, Q⟩ := K
  obtain ⟨hd, rfl⟩ := hd
  intro H locs ls hP hD hS h
  subst hx
  refine va_zald (D := xk_wD w) (cl := xk_wC w) (ws := xk_ws w σ) (f := σ.1 k) hc.1.1 hc.1.2.1 (hc.2.1.k hsh) hP k 0 (xk_wl_at hsh) rfl (vp_in_nI hi hn) hd ?_
  rw [nI_clamp (Nat.lt_trans hi hn), hv]
  exact kk H locs ls hP hD hS h
theorem x_iast {k n i : Nat} {x v : Int32} (hc : xk_H K w cc nL own d ret P) (hsh : (xk_wS w)[k]? = some (.inl (0, n))) (hx : x = nI i) (hi : i < n) (hn : n < 2 ^ 31) (hd : xk_d cc pc .iastore 1 pc') (kk : xk_X K (xk_vw w) (xk_up σ k i v) pc' lv st) : xk_X K (xk_vw w) σ pc lv (.int v :: .int x :: .ref (xk_wA w k) :: st) := by
  obtain ⟨p, l, e, R, s, m, args, below, meth, c, A, cells, slots, Q⟩ := K
  obtain ⟨hd, rfl⟩ := hd
  intro H locs ls hP hD hS h
  subst hx
  have e1 : (xk_ws w σ).set k (xk_wA w k, .inl ((xk_wG w).2 k, n, .inl (upd (σ.1 k) i v))) = xk_ws w (xk_up σ k i v) := by
    have e2 : upd (σ.1 k) i v = (xk_up σ k i v).1 k := by funext b; simp [upd, xk_up]
    rw [e2]
    exact xk_wl_set (sh := .inl (0, n)) hsh (fun i h => xk_up_ne i h)
  refine va_iast (D := xk_wD w) (cl := xk_wC w) (ws := xk_ws w σ) (f := σ.1 k) hc.1.1 hc.1.2.1 (hc.2.1.k hsh) hP hD hS k 0 (xk_wl_at hsh) rfl (vp_in_nI hi hn) hd (fun H1 locs1 hP1 hD1 hS1 => ?_)
  rw [nI_clamp (Nat.lt_trans hi hn), e1] at hP1 hD1
  exact kk H1 locs1 ls hP1 hD1 hS1 h
theorem x_zast {k n i : Nat} {x v : Int32} (hc : xk_H K w cc nL own d ret P) (hsh : (xk_wS w)[k]? = some (.inl (1, n))) (hx : x = nI i) (hi : i < n) (hn : n < 2 ^ 31) (hv : vp_nar .boolean v = v) (hd : xk_d cc pc .bastore 1 pc') (kk : xk_X K (xk_vw w) (xk_up σ k i v) pc' lv st) : xk_X K (xk_vw w) σ pc lv (.int v :: .int x :: .ref (xk_wA w k) :: st) := by
  obtain ⟨p, l, e, R, s, m, args, below, meth, c, A, cells, slots, Q⟩ := K
  obtain ⟨hd, rfl⟩ := hd
  intro H locs ls hP hD hS h
  subst hx
  have e1 : (xk_ws w σ).set k (xk_wA w k, .inl ((xk_wG w).2 k, n, .inl (upd (σ.1 k) i v))) = xk_ws w (xk_up σ k i v) := by
    have e2 : upd (σ.1 k) i v = (xk_up σ k i v).1 k := by funext b; simp [upd, xk_up]
    rw [e2]
    exact xk_wl_set (sh := .inl (1, n)) hsh (fun i h => xk_up_ne i h)
  refine va_zast (D := xk_wD w) (cl := xk_wC w) (ws := xk_ws w σ) (f := σ.1 k) hc.1.1 hc.1.2.1 (hc.2.1.k hsh) hP hD hS k 0 (xk_wl_at hsh) rfl (vp_in_nI hi hn) hd (fun H1 locs1 hP1 hD1 hS1 => ?_)
  rw [nI_clamp (Nat.lt_trans hi hn), hv, e1] at hP1 hD1
  exact kk H1 locs1 ls hP1 hD1 hS1 h
theorem x_aald {k n i b : Nat} {x : Int32} (hc : xk_H K w cc nL own d ret P) (hsh : (xk_wS w)[k]? = some (.inl (b + 2, n))) (hx : x = nI i) (hi : i < n) (hn : n < 2 ^ 31) (hd : xk_d cc pc .aaload 1 pc') (kk : xk_X K (xk_vw w) σ pc' lv (.ref (xk_wA w (b + i)) :: st)) : xk_X K (xk_vw w) σ pc lv (.int x :: .ref (xk_wA w k) :: st) := by
  obtain ⟨p, l, e, R, s, m, args, below, meth, c, A, cells, slots, Q⟩ := K
  obtain ⟨hd, rfl⟩ := hd
  intro H locs ls hP hD hS h
  subst hx
  refine va_aldq (D := xk_wD w) (cl := xk_wC w) (ws := xk_ws w σ) (f := fun u => some (xk_wA w (b + u))) hc.1.1 hc.1.2.1 (hc.2.1.k hsh) hP k 0 (xk_wl_at hsh) rfl (vp_in_nI hi hn) hd ?_
  rw [nI_clamp (Nat.lt_trans hi hn)]
  exact kk H locs ls hP hD hS h
theorem x_alen {k n kd : Nat} (hc : xk_H K w cc nL own d ret P) (hsh : (xk_wS w)[k]? = some (.inl (kd, n))) (hd : xk_d cc pc .arraylength 1 pc') (kk : xk_X K (xk_vw w) σ pc' lv (.int (nI n) :: st)) : xk_X K (xk_vw w) σ pc lv (.ref (xk_wA w k) :: st) := by
  obtain ⟨p, l, e, R, s, m, args, below, meth, c, A, cells, slots, Q⟩ := K
  obtain ⟨hd, rfl⟩ := hd
  intro H locs ls hP hD hS h
  exact va_alen (D := xk_wD w) (cl := xk_wC w) (ws := xk_ws w σ) (v := nI n) hc.1.1 hc.1.2.1 (hc.2.1.k hsh) hP k 0 (xk_wl_at hsh) rfl rfl hd (kk H locs ls hP hD hS h)
theorem x_ireturn {v : Int32} (hc : xk_H K w cc nL own d (some .int) P) (hd : xk_d cc pc .ireturn 1 pc') (hp : P (some (.int v)) σ) : xk_X K (xk_vw w) σ pc lv [.int v] := by
  obtain ⟨p, l, e, R, s, m, args, below, meth, c, A, cells, slots, Q⟩ := K
  obtain ⟨hf, hKK, -, ⟨hr, hlk⟩, ⟨rfl, rfl⟩, rfl, rfl⟩ := hc
  intro H locs ls hP hD hS h
  exact W.iret hf.1 hf.2.1 hr (fun t ht hW => ⟨⟨some (.int v), σ, rfl, hp, by rw [ht]; exact hP⟩, hS.F ht⟩) hS.2.2 hd.1 hlk
theorem x_zreturn {v : Int32} (hc : xk_H K w cc nL own d (some .boolean) P) (hd : xk_d cc pc .ireturn 1 pc') (hn : narrow .boolean (.int v) = .int v) (hp : P (some (.int v)) σ) : xk_X K (xk_vw w) σ pc lv [.int v] := by
  obtain ⟨p, l, e, R, s, m, args, below, meth, c, A, cells, slots, Q⟩ := K
  obtain ⟨hf, hKK, -, ⟨hr, hlk⟩, ⟨rfl, rfl⟩, rfl, rfl⟩ := hc
  intro H locs ls hP hD hS h
  exact W.zret hf.1 hf.2.1 hr hn (fun t ht hW => ⟨⟨some (.int v), σ, rfl, hp, by rw [ht]; exact hP⟩, hS.F ht⟩) hS.2.2 hd.1 hlk
theorem x_lreturn {v : Int64} (hc : xk_H K w cc nL own d (some .long) P) (hd : xk_d cc pc .lreturn 1 pc') (hp : P (some (.long v)) σ) : xk_X K (xk_vw w) σ pc lv [.long v] := by
  obtain ⟨p, l, e, R, s, m, args, below, meth, c, A, cells, slots, Q⟩ := K
  obtain ⟨hf, hKK, -, ⟨hr, hlk⟩, ⟨rfl, rfl⟩, rfl, rfl⟩ := hc
  intro H locs ls hP hD hS h
  exact W.lret hf.1 hf.2.1 hr (fun t ht hW => ⟨⟨some (.long v), σ, rfl, hp, by rw [ht]; exact hP⟩, hS.F ht⟩) hS.2.2 hd.1 hlk
theorem x_vreturn (hc : xk_H K w cc nL own d none P) (hd : xk_d cc pc .return_ 1 pc') (hp : P none σ) : xk_X K (xk_vw w) σ pc lv [] := by
  obtain ⟨p, l, e, R, s, m, args, below, meth, c, A, cells, slots, Q⟩ := K
  obtain ⟨hf, hKK, -, ⟨hr, hlk⟩, ⟨rfl, rfl⟩, rfl, rfl⟩ := hc
  intro H locs ls hP hD hS h
  exact W.vret hf.1 hf.2.1 hr (fun t ht hW => ⟨⟨none, σ, rfl, hp, by rw [ht]; exact hP⟩, hS.F ht⟩) hS.2.2 hd.1 hlk
end XH
section XC
variable {p : Program} {l : Launch} {e : Env} {R : Room} {s : State} {m : MethodId} {args : Array Value} {below : List Frame} {meth : Method} {c : Code} {H : Heap} {locs : List Loc} {cells slots : Nat} {Q : State → Prop}
variable {pc : Nat} {ls : Array Slot} {rest st0 : List Value} {a : Array Value} {A0 A1 : Nat → Prop} {H0 : Heap} {free : Addr → Prop}
/-- behind a call: the world that the callee leaves -/
theorem xk_on {w : xk_w} {P : Option Value → xk_St → Prop} (hr : va_Run p l e R s m args below meth c H locs cells slots 0 0 (F0 m pc ls st0) rest (xk_Qc w P A1 a) free) (hS : va_S A0 H0 H locs) (hA : ∀ q, q < H.size → A1 q → A0 q) (hf : ∀ q, free q → A0 q)
    (kk : ∀ (v : Option Value) (τ : xk_St) (H1 : Heap) (locs1 : List Loc), P v τ → va_P (xk_wD w) (xk_wC w) (xk_ws w τ) H1 → (∀ q : Nat, q < H.size → ¬ A1 q → H1[q]? = H[q]?) → va_S A0 H0 H1 locs1 → W p l e R s m args below meth c H1 locs1 cells slots Q (F0 m (pc + 3) ls (v.toList ++ rest))) : W p l e R s m args below meth c H locs cells slots Q (F0 m pc ls st0) := by
  intro T hT X
  obtain ⟨v, st₀, t, T', L, h0, X', hL, e1, e2, ⟨⟨v', τ, hv, hp, hP⟩, hz, hk⟩, st⟩ := hr T hT X
  cases hv
  rw [h0] at hz hk
  obtain ⟨t2, a1, b1⟩ := kk v τ T'.heap (locs ++ L) hp (by rw [e1]; exact hP) (fun q h1 h2 => by rw [e1]; exact hk q h1 h2)
    ⟨Nat.le_trans hS.1 (by rw [e1]; exact hz), fun q h1 h2 => by rw [e1, hk q (Nat.lt_of_lt_of_le h1 hS.1) (fun z => h2 (hA q (Nat.lt_of_lt_of_le h1 hS.1) z))]; exact hS.2.1 q h1 h2, fun q hq => by
      rcases List.mem_append.mp hq with h | h
      · exact hS.2.2 q h
      · exact hf _ (hL q h)⟩ T' rfl X'
  exact ⟨t2, st t2 a1, b1⟩
end XC
section XI
variable {K : xk_K} {w : xk_w} {σ : xk_St} {cc : ByteArray} {nL d d' pc pc' idx n : Nat} {own host : String} {ret : Option FieldType} {P P' : Option Value → xk_St → Prop} {lv : List (Nat × Value)} {st As : List Value} {y : xk_Y}
def xk_good (w : xk_w) : Prop := ∀ v ∈ (xk_wT w), (v.onTables && v.keeps) = true ∨ ∃ ty, v = .arrayClass ty
theorem xk_goodIn (hg : xk_good w) (hcode : Cond.code y.1 y.2.1 y.2.2.1 y.2.2.2 ∈ xk_wT w) : GoodIn (xk_wT w) (Cond.code y.1 y.2.1 y.2.2.1 y.2.2.2 :: xk_wT w) := by
  intro v hv
  rcases List.mem_cons.mp hv with rfl | h
  · exact ⟨hcode, hg _ hcode⟩
  · exact ⟨h, hg _ h⟩
/-- what the tables say of a method that is called -/
def xk_CY (w : xk_w) (y : xk_Y) (n : Nat) : Prop := Cond.code y.1 y.2.1 y.2.2.1 y.2.2.2 ∈ (xk_wT w) ∧ Cond.initialized y.1.cls ∈ (xk_wT w) ∧ (y.1.cls ≠ "java/lang/invoke/MethodHandle" ∧ y.1.cls ≠ "java/lang/invoke/VarHandle" ∧ (parseMethodDescriptor y.1.desc).map (fun d => d.parameters.length) = some n) ∧ y.2.2.1 ≤ 21
theorem xk_pre {s : State} {H : Heap} {args : List Value} (hKK : xk_KK w s) (hP : va_P (xk_wD w) (xk_wC w) (xk_ws w σ) H) {A : Nat → Prop} (hD : va_D A (xk_ws w σ)) : PreS s H (va_Pc args (fun U => U.heap.size = H.size ∧ va_P (xk_wD w) (xk_wC w) (xk_ws w σ) U.heap ∧ xk_KK w U ∧ va_D (fun _ => True) (xk_ws w σ))) args :=
  ⟨fun a U g mk q => by obtain ⟨q0, q1, qP, qK, qD⟩ := q; exact ⟨q0, q1, qP, xk_KK.same (u := U) (U := U.calling g mk a) rfl qK, qD⟩, fun U hU hW => ⟨rfl, by rw [hU], by rw [hU]; exact hP, hKK.moved hW, hD.weaken (fun _ _ _ _ => trivial)⟩⟩
theorem xk_sub {s : State} {H : Heap} {A : Nat → Prop} {locs : List Loc} (hD : va_D A (xk_ws w σ)) (hS : va_S A s.heap H locs) (hA : ∀ q, s.heap.size ≤ q → A q) : ∀ q, xk_A (xk_wS w) (xk_wG w) H.size q → A q := by
  intro q h
  rcases h with ⟨k, hk, rfl⟩ | h
  · exact xk_D_in hD hk
  · exact hA q (Nat.le_trans hS.1 h)
theorem x_callVN {k ci N : Nat} {T : u_T} {fks : List xk_FK} (hc : xk_H K w cc nL own d ret P) (hg : xk_good w) (hy : xk_CY w y n) (hlink : Cond.methodLinkNest own idx y.1 host ∈ (xk_wN w)) (hsh : (xk_wS w)[k]? = some (.inr (ci, fks))) (hcl : (xk_wC w)[ci]? = some (y.1.cls, T, N)) (hin : Cond.instanceMethod y.1 ∈ xk_wT w) (hsel : Cond.selects y.1.cls y.1 y.1 ∈ xk_wT w) (hM : xk_M w d' y (.ref (xk_wA w k) :: As) σ P') (hdd : d' + 1 ≤ d) (hn : As.length = n) (hst : (st.map fun v => v.category).sum ≤ 8) (hd : xk_d cc pc (.invokevirtual idx) 3 pc') (kk : ∀ (v : Option Value) (τ : xk_St), P' v τ → xk_X K (xk_vw w) τ pc' lv (v.toList ++ st)) : xk_X K (xk_vw w) σ pc lv (As.reverse ++ .ref (xk_wA w k) :: st) := by
  obtain ⟨p, l, e, R, s, m, args, below, meth, c, A, cells, slots, Q⟩ := K
  obtain ⟨hd, rfl⟩ := hd
  intro H locs ls hP hD hS h
  have hA : ∀ q, s.heap.size ≤ q → A q := fun q h => by rw [hc.2.2.2.2.2.1]; exact Or.inr h
  have hF := xk_sub hD hS hA
  have hrm : 8 + (y.2.2.1 + 11) + (xk_rm d').locals ≤ R.locals := by
    have h1 := hc.2.2.1.2
    have h2 := hy.2.2.2
    show 8 + (y.2.2.1 + 11) + 40 * d' ≤ R.locals
    omega
  obtain ⟨hcl0, hsl0⟩ := hc.2.2.2.2.1
  refine xk_on (va_runVN (As := As) (rest := st) ⟨hc.1.1, hc.1.2.1, rfl, hc.1.2.2.2.1, hc.1.2.2.2.2⟩ (hM l H.size) ⟨va_cnB (host := host) n hc.1.2.2.2.2 (xk_goodIn hg hy.1) rfl rfl rfl (hc.2.1.n hlink) (hc.1.2.2.2.2 _ hy.2.1) hy.2.2.1 ⟨Nat.le_trans hdd hc.2.2.1.1, hrm⟩, hc.1.2.2.2.2 _ hin, hc.1.2.2.2.2 _ hsel⟩ ⟨(xk_pre (args := []) hc.2.1 hP hD).1 |> fun _ => (xk_pre (args := .ref (xk_wA w k) :: As) hc.2.1 hP hD).1, va_recv hc.2.1.1 hP hcl (xk_wl_at hsh), (xk_pre (args := .ref (xk_wA w k) :: As) hc.2.1 hP hD).2⟩ rfl hn h.1 rfl (lv_room hst) hd ⟨by rw [hcl0]; exact Nat.zero_le _, by rw [hsl0]; exact Nat.zero_le _⟩) hS (fun q _ h => hF q h) hF (fun v τ H1 locs1 hp hP1 _ hS1 => ?_)
  exact kk v τ hp H1 locs1 ls hP1 (xk_D_of hD (fun k hk => xk_D_in hD hk)) hS1 h
theorem x_callSN (hc : xk_H K w cc nL own d ret P) (hg : xk_good w) (hy : xk_CY w y n) (hlink : Cond.methodLinkNest own idx y.1 host ∈ (xk_wN w)) (hstat : Cond.static y.1 ∈ xk_wT w) (hM : xk_M w d' y As σ P') (hdd : d' + 1 ≤ d) (hn : As.length = n) (hst : (st.map fun v => v.category).sum ≤ 8) (hd : xk_d cc pc (.invokestatic idx) 3 pc') (kk : ∀ (v : Option Value) (τ : xk_St), P' v τ → xk_X K (xk_vw w) τ pc' lv (v.toList ++ st)) : xk_X K (xk_vw w) σ pc lv (As.reverse ++ st) := by
  obtain ⟨p, l, e, R, s, m, args, below, meth, c, A, cells, slots, Q⟩ := K
  obtain ⟨hd, rfl⟩ := hd
  intro H locs ls hP hD hS h
  have hA : ∀ q, s.heap.size ≤ q → A q := fun q h => by rw [hc.2.2.2.2.2.1]; exact Or.inr h
  have hF := xk_sub hD hS hA
  have hrm : 8 + (y.2.2.1 + 11) + (xk_rm d').locals ≤ R.locals := by
    have h1 := hc.2.2.1.2
    have h2 := hy.2.2.2
    show 8 + (y.2.2.1 + 11) + 40 * d' ≤ R.locals
    omega
  obtain ⟨hcl0, hsl0⟩ := hc.2.2.2.2.1
  refine xk_on (va_runSN (As := As) (rest := st) ⟨hc.1.1, hc.1.2.1, rfl, hc.1.2.2.2.1, hc.1.2.2.2.2⟩ (hM l H.size) ⟨va_cnB (host := host) n hc.1.2.2.2.2 (xk_goodIn hg hy.1) rfl rfl rfl (hc.2.1.n hlink) (hc.1.2.2.2.2 _ hy.2.1) hy.2.2.1 ⟨Nat.le_trans hdd hc.2.2.1.1, hrm⟩, hc.1.2.2.2.2 _ hstat, trivial⟩ (xk_pre hc.2.1 hP hD) rfl hn h.1 rfl (lv_room hst) hd ⟨by rw [hcl0]; exact Nat.zero_le _, by rw [hsl0]; exact Nat.zero_le _⟩) hS (fun q _ h => hF q h) hF (fun v τ H1 locs1 hp hP1 _ hS1 => ?_)
  exact kk v τ hp H1 locs1 ls hP1 (xk_D_of hD (fun k hk => xk_D_in hD hk)) hS1 h
theorem x_callV {k ci N : Nat} {T : u_T} {fks : List xk_FK} (hc : xk_H K w cc nL own d ret P) (hg : xk_good w) (hy : xk_CY w y n) (hlink : Cond.methodLink own idx y.1 ∈ (xk_wT w)) (hsh : (xk_wS w)[k]? = some (.inr (ci, fks))) (hcl : (xk_wC w)[ci]? = some (y.1.cls, T, N)) (hin : Cond.instanceMethod y.1 ∈ xk_wT w) (hsel : Cond.selects y.1.cls y.1 y.1 ∈ xk_wT w) (hM : xk_M w d' y (.ref (xk_wA w k) :: As) σ P') (hdd : d' + 1 ≤ d) (hn : As.length = n) (hst : (st.map fun v => v.category).sum ≤ 8) (hd : xk_d cc pc (.invokevirtual idx) 3 pc') (kk : ∀ (v : Option Value) (τ : xk_St), P' v τ → xk_X K (xk_vw w) τ pc' lv (v.toList ++ st)) : xk_X K (xk_vw w) σ pc lv (As.reverse ++ .ref (xk_wA w k) :: st) := by
  obtain ⟨p, l, e, R, s, m, args, below, meth, c, A, cells, slots, Q⟩ := K
  obtain ⟨hd, rfl⟩ := hd
  intro H locs ls hP hD hS h
  have hA : ∀ q, s.heap.size ≤ q → A q := fun q h => by rw [hc.2.2.2.2.2.1]; exact Or.inr h
  have hF := xk_sub hD hS hA
  have hrm : 8 + (y.2.2.1 + 11) + (xk_rm d').locals ≤ R.locals := by
    have h1 := hc.2.2.1.2
    have h2 := hy.2.2.2
    show 8 + (y.2.2.1 + 11) + 40 * d' ≤ R.locals
    omega
  obtain ⟨hcl0, hsl0⟩ := hc.2.2.2.2.1
  have hCB : CallB R s args own idx y.1 y.2.1 y.2.2.1 y.2.2.2 (Cond.code y.1 y.2.1 y.2.2.1 y.2.2.2 :: xk_wT w) (xk_rm d') 0 0 n := callB_of n hc.1.2.2.2.2 (xk_goodIn hg hy.1) rfl rfl rfl (hc.1.2.2.2.2 _ hy.2.1) (hc.1.2.2.2.2 _ hlink) hy.2.2.1 ⟨Nat.le_trans hdd hc.2.2.1.1, hrm⟩
  refine xk_on (va_runV (As := As) (rest := st) ⟨hc.1.1, hc.1.2.1, rfl, hc.1.2.2.2.1, hc.1.2.2.2.2⟩ (hM l H.size) ⟨hCB, hc.1.2.2.2.2 _ hin, hc.1.2.2.2.2 _ hsel⟩ ⟨(xk_pre (args := []) hc.2.1 hP hD).1 |> fun _ => (xk_pre (args := .ref (xk_wA w k) :: As) hc.2.1 hP hD).1, va_recv hc.2.1.1 hP hcl (xk_wl_at hsh), (xk_pre (args := .ref (xk_wA w k) :: As) hc.2.1 hP hD).2⟩ rfl hn h.1 rfl (lv_room hst) hd ⟨by rw [hcl0]; exact Nat.zero_le _, by rw [hsl0]; exact Nat.zero_le _⟩) hS (fun q _ h => hF q h) hF (fun v τ H1 locs1 hp hP1 _ hS1 => ?_)
  exact kk v τ hp H1 locs1 ls hP1 (xk_D_of hD (fun k hk => xk_D_in hD hk)) hS1 h
theorem x_callS (hc : xk_H K w cc nL own d ret P) (hg : xk_good w) (hy : xk_CY w y n) (hlink : Cond.methodLink own idx y.1 ∈ (xk_wT w)) (hstat : Cond.static y.1 ∈ xk_wT w) (hM : xk_M w d' y As σ P') (hdd : d' + 1 ≤ d) (hn : As.length = n) (hst : (st.map fun v => v.category).sum ≤ 8) (hd : xk_d cc pc (.invokestatic idx) 3 pc') (kk : ∀ (v : Option Value) (τ : xk_St), P' v τ → xk_X K (xk_vw w) τ pc' lv (v.toList ++ st)) : xk_X K (xk_vw w) σ pc lv (As.reverse ++ st) := by
  obtain ⟨p, l, e, R, s, m, args, below, meth, c, A, cells, slots, Q⟩ := K
  obtain ⟨hd, rfl⟩ := hd
  intro H locs ls hP hD hS h
  have hA : ∀ q, s.heap.size ≤ q → A q := fun q h => by rw [hc.2.2.2.2.2.1]; exact Or.inr h
  have hF := xk_sub hD hS hA
  have hrm : 8 + (y.2.2.1 + 11) + (xk_rm d').locals ≤ R.locals := by
    have h1 := hc.2.2.1.2
    have h2 := hy.2.2.2
    show 8 + (y.2.2.1 + 11) + 40 * d' ≤ R.locals
    omega
  obtain ⟨hcl0, hsl0⟩ := hc.2.2.2.2.1
  have hCB : CallB R s args own idx y.1 y.2.1 y.2.2.1 y.2.2.2 (Cond.code y.1 y.2.1 y.2.2.1 y.2.2.2 :: xk_wT w) (xk_rm d') 0 0 n := callB_of n hc.1.2.2.2.2 (xk_goodIn hg hy.1) rfl rfl rfl (hc.1.2.2.2.2 _ hy.2.1) (hc.1.2.2.2.2 _ hlink) hy.2.2.1 ⟨Nat.le_trans hdd hc.2.2.1.1, hrm⟩
  refine xk_on (va_runS (As := As) (rest := st) ⟨hc.1.1, hc.1.2.1, rfl, hc.1.2.2.2.1, hc.1.2.2.2.2⟩ (hM l H.size) ⟨hCB, hc.1.2.2.2.2 _ hstat⟩ (xk_pre hc.2.1 hP hD) rfl hn h.1 rfl (lv_room hst) hd ⟨by rw [hcl0]; exact Nat.zero_le _, by rw [hsl0]; exact Nat.zero_le _⟩) hS (fun q _ h => hF q h) hF (fun v τ H1 locs1 hp hP1 _ hS1 => ?_)
  exact kk v τ hp H1 locs1 ls hP1 (xk_D_of hD (fun k hk => xk_D_in hD hk)) hS1 h
end XI

