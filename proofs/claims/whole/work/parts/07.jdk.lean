/-! members of the JDK that are called: abs, max, arraycopy, fill -/
section XJ
variable {G : xk_D} {K : xk_K} {σ : xk_St} {cc : ByteArray} {nL d pc pc' : Nat} {ret : Option FieldType} {P : Option Value → xk_St → Prop} {lv : List (Nat × Value)} {st : List Value}
theorem xj_mem {v : Cond} (i : Nat) (h : tables_1[i]? = some v) (g : goodWord v = true) : v ∈ xt_T := List.mem_filter.mpr ⟨List.mem_append_right _ (List.mem_of_getElem? h), g⟩
theorem xj_abs {w : xk_w} {own : String} {idx : Nat} {x : Int32} (hc : xk_H K w cc nL own d ret P) (hl : Cond.methodLink own idx Lib.Math.abs.name ∈ xk_wT w) (hs : Cond.static Lib.Math.abs.name ∈ xk_wT w) (hi : Cond.initialized "java/lang/Math" ∈ xk_wT w) (hk : Cond.code Lib.Math.abs.name Lib.Math.abs.code 1 (some .int) ∈ xk_wT w) (hd : xk_d cc pc (.invokestatic idx) 3 pc') (h1 : 1 ≤ d) (hst : (st.map fun v => v.category).sum ≤ 8) (kk : xk_X K (xk_vw w) σ pc' lv (.int (if 0 ≤ x then x else 0 - x) :: st)) : xk_X K (xk_vw w) σ pc lv (.int x :: st) := by
  obtain ⟨p, l, e, R, s, m, args, below, meth, c, A, cells, slots, Q⟩ := K
  obtain ⟨hd, rfl⟩ := hd
  intro H locs ls hP hD hS h
  have hw := hc.1.2.2.2.2
  have hr := hc.2.2.1
  obtain ⟨hc0, hs0⟩ := hc.2.2.2.2.1
  exact va_mabs hc.1.1 hc.1.2.1 h.1.symm hc.1.2.2.2.1 (hw _ hl) (hw _ hs) (hw _ hi) (hw _ hk) (by omega) (by omega) (by omega) (by omega) hd (kk H locs ls hP hD hS h)
theorem xj_max {w : xk_w} {own : String} {idx : Nat} {x y : Int32} (hc : xk_H K w cc nL own d ret P) (hl : Cond.methodLink own idx Lib.Math.max.name ∈ xk_wT w) (hs : Cond.static Lib.Math.max.name ∈ xk_wT w) (hi : Cond.initialized "java/lang/Math" ∈ xk_wT w) (hk : Cond.code Lib.Math.max.name Lib.Math.max.code 2 (some .int) ∈ xk_wT w) (hd : xk_d cc pc (.invokestatic idx) 3 pc') (h1 : 1 ≤ d) (hst : (st.map fun v => v.category).sum ≤ 8) (kk : xk_X K (xk_vw w) σ pc' lv (.int (if x < y then y else x) :: st)) : xk_X K (xk_vw w) σ pc lv (.int y :: .int x :: st) := by
  obtain ⟨p, l, e, R, s, m, args, below, meth, c, A, cells, slots, Q⟩ := K
  obtain ⟨hd, rfl⟩ := hd
  intro H locs ls hP hD hS h
  have hw := hc.1.2.2.2.2
  have hr := hc.2.2.1
  obtain ⟨hc0, hs0⟩ := hc.2.2.2.2.1
  exact va_mmax hc.1.1 hc.1.2.1 h.1.symm hc.1.2.2.2.1 (hw _ hl) (hw _ hs) (hw _ hi) (hw _ hk) (by omega) (by omega) (by omega) (by omega) hd (kk H locs ls hP hD hS h)
theorem xj_G_41 {x : Int32} (hc : xk_H K (xc G) cc nL RG d ret P) (hd : xk_d cc pc (.invokestatic 41) 3 pc') (kk : xk_X K (xk_vw (xc G)) σ pc' lv (.int (if 0 ≤ x then x else 0 - x) :: st)) (h1 : 1 ≤ d := by decide) (hst : (st.map fun v => v.category).sum ≤ 8 := by exact Nat.le_of_ble_eq_true rfl) : xk_X K (xk_vw (xc G)) σ pc lv (.int x :: st) :=
  xj_abs hc (xj_mem 283 (by decide +kernel) (by decide +kernel)) (xj_mem 284 (by decide +kernel) (by decide +kernel)) (xj_mem 8 (by decide +kernel) (by decide +kernel)) (xj_mem 285 (by decide +kernel) (by decide +kernel)) hd h1 hst kk
theorem xj_U_51 {x y : Int32} (hc : xk_H K (xc G) cc nL RU d ret P) (hd : xk_d cc pc (.invokestatic 51) 3 pc') (kk : xk_X K (xk_vw (xc G)) σ pc' lv (.int (if x < y then y else x) :: st)) (h1 : 1 ≤ d := by decide) (hst : (st.map fun v => v.category).sum ≤ 8 := by exact Nat.le_of_ble_eq_true rfl) : xk_X K (xk_vw (xc G)) σ pc lv (.int y :: .int x :: st) :=
  xj_max hc (xj_mem 344 (by decide +kernel) (by decide +kernel)) (xj_mem 345 (by decide +kernel) (by decide +kernel)) (xj_mem 8 (by decide +kernel) (by decide +kernel)) (xj_mem 346 (by decide +kernel) (by decide +kernel)) hd h1 hst kk
theorem xj_dif {a b : Nat} (ha : a < 2 ^ 30) (hb : b < 2 ^ 30) : (if 0 ≤ nI a - nI b then nI a - nI b else 0 - (nI a - nI b)) = nI (am_dif a b) := by
  unfold am_dif
  by_cases h : b ≤ a
  · rw [pk_sub h, if_pos (nI_pos' (by omega))]
    congr 1
    omega
  · have h1 := pk_sneg hb (show a < b by omega)
    have h2 : ¬ 0 ≤ nI a - nI b := fun q => by
      rw [Int32.le_iff_toInt_le] at q
      rw [Int32.lt_iff_toInt_lt] at h1
      omega
    rw [if_neg h2]
    have h3 : 0 - (nI a - nI b) = nI b - nI a := by grind
    rw [h3, pk_sub (show a ≤ b by omega)]
    congr 1
    omega
theorem xj_lose {a l : Nat} (ha : a < 2 ^ 30) (hl : l < 2 ^ 30) : (if nI 0 < nI a - nI l then nI a - nI l else nI 0) = nI (a - l) := by
  by_cases h : l ≤ a
  · rw [pk_sub h]
    by_cases h2 : 0 < a - l
    · rw [if_pos (nI_lt h2 (by omega))]
    · rw [show a - l = 0 by omega, if_neg (nI_nlt (Nat.le_refl _) (by decide))]
  · have h1 := pk_sneg hl (show a < l by omega)
    have h2 : ¬ nI 0 < nI a - nI l := fun q => by
      rw [nI_0, Int32.lt_iff_toInt_lt] at q
      rw [Int32.lt_iff_toInt_lt] at h1
      omega
    rw [if_neg h2, show a - l = 0 by omega]
theorem xk_row_up {σ : xk_St} {k i : Nat} {f : Nat → Int32} {v : Int32} : xk_up (xk_row σ k f) k i v = xk_row σ k (fun j => if j = i then v else f j) := by
  unfold xk_up xk_row
  congr 1
  funext a b
  by_cases h : a = k
  · subst h; simp
  · simp [h]
theorem xk_row_id (σ : xk_St) (k : Nat) : xk_row σ k (σ.1 k) = σ := by
  unfold xk_row
  congr 1
  funext a
  by_cases h : a = k
  · subst h; simp
  · simp [h]
theorem xl_G_29 (hc : xk_H K (xc G) cc nL RG d ret P) (hd : xk_d cc pc (.ldc2_w 29) 3 pc') (kk : xk_X K (xk_vw (xc G)) σ pc' lv (.long (-1) :: st)) : xk_X K (xk_vw (xc G)) σ pc lv st := by
  obtain ⟨p, l, e, R, s, m, args, below, meth, c, A, cells, slots, Q⟩ := K
  obtain ⟨hd, rfl⟩ := hd
  intro H locs ls hP hD hS h
  exact lv_ldc2 hc.1.1 hc.1.2.1 hc.1.2.2.2.1 (hc.1.2.2.2.2 _ (xj_mem 190 (by decide +kernel) (by decide +kernel))) hd (kk H locs ls hP hD hS h)
theorem xj_L_32 {k n sp dp q : Nat} (hc : xk_H K (xc G) cc nL RL d ret P) (hsh : xc_S[k]? = some (.inl (0, n))) (h4 : sp + q ≤ n) (h5 : dp + q ≤ n) (hn : n < 2 ^ 31) (hd : xk_d cc pc (.invokestatic 32) 3 pc') (h1 : 1 ≤ d) (kk : xk_X K (xk_vw (xc G)) (xk_row σ k (va_cpy (σ.1 k) (σ.1 k) sp dp q)) pc' lv []) : xk_X K (xk_vw (xc G)) σ pc lv [.int (nI q), .int (nI dp), .ref (xk_wA (xc G) k), .int (nI sp), .ref (xk_wA (xc G) k)] := by
  obtain ⟨p, l, e, R, s, m, args, below, meth, c, A, cells, slots, Q⟩ := K
  obtain ⟨hd, rfl⟩ := hd
  intro H locs ls hP hD hS h
  have hw := hc.1.2.2.2.2
  have hr := hc.2.2.1
  have hk : (xk_row σ k (va_cpy (σ.1 k) (σ.1 k) sp dp q)).1 k = va_cpy (σ.1 k) (σ.1 k) sp dp q := by simp [xk_row]
  have e1 := xk_wl_set (shp := xc_S) (g := G.2) (σ := σ) (τ := xk_row σ k (va_cpy (σ.1 k) (σ.1 k) sp dp q)) (sh := .inl (0, n)) hsh (fun i h => xk_row_ne i h)
  simp only [xk_cell, xk_ac, hk] at e1
  have c1 : (nI sp).toNatClampNeg = sp := nI_clamp (by omega)
  have c2 : (nI dp).toNatClampNeg = dp := nI_clamp (by omega)
  have c3 : (nI q).toNatClampNeg = q := nI_clamp (by omega)
  refine va_copyi (D := G.1) (cl := xt_C) (ws := xk_ws (xc G) σ) (f := σ.1 k) (g := σ.1 k) (ty := .int) hc.1.1 hc.1.2.1 h.1.symm hc.1.2.2.2.1 (hw _ (xj_mem 251 (by decide +kernel) (by decide +kernel))) (hw _ (xj_mem 253 (by decide +kernel) (by decide +kernel))) (hw _ (xj_mem 252 (by decide +kernel) (by decide +kernel))) (hw _ (xj_mem 7 (by decide +kernel) (by decide +kernel))) (hc.2.1.k hsh) hP hD hS k k 0 0 (xk_wl_at hsh) (xk_wl_at hsh) rfl rfl rfl (nI_pos (by omega)) (nI_pos (by omega)) (nI_pos (by omega)) (by rw [c1, c3]; exact h4) (by rw [c2, c3]; exact h5) (fun _ _ => rfl) (by omega) ?_ hd (fun H1 locs1 hP1 hD1 hS1 => ?_)
  · have h9 : nativeFrameWords "java/lang/System" "arraycopy" 5 ≤ 20 := by decide +kernel
    simp only [List.map_nil, List.sum_nil]
    omega
  · rw [c1, c2, c3] at hP1 hD1
    refine kk H1 locs1 ls ?_ ?_ hS1 h
    · show va_P G.1 xt_C (xk_wl xc_S G.2 (xk_row σ k (va_cpy (σ.1 k) (σ.1 k) sp dp q))) H1
      rw [← e1]
      exact hP1
    · show va_D A (xk_wl xc_S G.2 (xk_row σ k (va_cpy (σ.1 k) (σ.1 k) sp dp q)))
      rw [← e1]
      exact hD1
end XJ
theorem k_A_fill {G : xk_D} {σ : xk_St} {k n : Nat} {v : Int32} (hsh : xc_S[k]? = some (.inl (0, n))) (hn : n < 2 ^ 31) : xk_M (xc G) 0 y_A_fill [.ref (xk_wA (xc G) k), .int v] σ (xk_pv (fun τ => τ = xk_row σ k (fun j => if j < n then v else σ.1 k j))) := by
  refine xk_enter (by decide) (Nat.le_of_ble_eq_true rfl) (fun K hE hc => ?_)
  show xk_X K _ _ 0 [(0, _), (1, _)] []
  refine x_iconst (nI 0) hE d_A_fill_0 (by decide) ?_
  refine x_istore_n [(2, _), (0, _), (1, _)] hE d_A_fill_1 rfl (by decide) rfl ?_
  refine x_aload_n hE d_A_fill_2 1 rfl ?_
  refine x_alen hc hsh d_A_fill_3 ?_
  refine x_istore_n [(3, _), (2, _), (0, _), (1, _)] hE d_A_fill_4 rfl (by decide) rfl ?_
  refine x_lv [2, 3, 1, 0] (lv' := [(0, _), (1, _), (2, _), (3, _)]) rfl ?_
  have loop : ∀ (m i : Nat) (τ : xk_St), i + m = n → τ = xk_row σ k (fun j => if j < i then v else σ.1 k j) → xk_X K (xk_vw (xc G)) τ 5 [(0, .ref (xk_wA (xc G) k)), (1, .int v), (2, .int (nI i)), (3, .int (nI n))] [] := by
    intro m
    induction m with
    | zero =>
      intro i τ hi hτ
      refine x_iload_n hE d_A_fill_5 2 rfl ?_
      refine x_iload_n hE d_A_fill_6 3 rfl ?_
      first | refine xn_icmp_ge hE d_A_fill_7 (fun h => ?_) (fun h => ?_) | refine x_icmp_ge hE d_A_fill_7 (fun h => ?_) (fun h => ?_)
      · skip
        exact x_ret hc d_A_fill_20 (by rw [hτ, show i = n by omega])
      · exact absurd h (by omega)
    | succ m ih =>
      intro i τ hi hτ
      refine x_iload_n hE d_A_fill_5 2 rfl ?_
      refine x_iload_n hE d_A_fill_6 3 rfl ?_
      first | refine xn_icmp_ge hE d_A_fill_7 (fun h => ?_) (fun h => ?_) | refine x_icmp_ge hE d_A_fill_7 (fun h => ?_) (fun h => ?_)
      · exact absurd h (by omega)
      · skip
        refine x_aload_n hE d_A_fill_10 0 rfl ?_
        refine x_iload_n hE d_A_fill_11 2 rfl ?_
        refine x_iload_n hE d_A_fill_12 1 rfl ?_
        refine x_iast hc hsh rfl (by omega) hn d_A_fill_13 ?_
        refine x_iinc 2 (nI (_ + 1)) [(2, _), (0, _), (1, _), (3, _)] hE d_A_fill_14 rfl (nI_inc _) (by decide) rfl ?_
        refine x_goto hE d_A_fill_17 ?_
        refine x_lv [1, 2, 0, 3] (lv' := [(0, _), (1, _), (2, _), (3, _)]) rfl ?_
        refine ih (i + 1) _ (by omega) ?_
        rw [hτ, xk_row_up]
        congr 1
        funext j
        by_cases h1 : j = i
        · subst h1; simp
        · by_cases h2 : j < i
          · rw [if_neg h1, if_pos h2, if_pos (by omega)]
          · rw [if_neg h1, if_neg h2, if_neg (by omega)]
  refine loop n 0 σ (by omega) ?_
  have h0 : (fun j => if j < 0 then v else σ.1 k j) = σ.1 k := by funext j; simp
  rw [h0, xk_row_id]
