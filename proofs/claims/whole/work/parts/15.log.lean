/-! LOG -/
def xc_L (cnt : Nat) (L : am_L) (σ : xk_St) : Prop := σ.1 5 4 = nI cnt ∧ ∀ e, e < cnt → σ.1 6 e = (L e).1 ∧ σ.1 7 e = nI (L e).2.1 ∧ σ.1 8 e = nI (L e).2.2.1 ∧ σ.1 9 e = nI (L e).2.2.2
def xc_fL (σ τ : xk_St) : Prop := τ.2 = σ.2 ∧ ∀ k, k < 5 ∨ 9 < k → τ.1 k = σ.1 k
def am_del (L : am_L) (k : Nat) : am_L := fun e => if e < k then L e else L (e + 1)
section XLg
variable {G : xk_D} {σ : xk_St}
theorem k_L_add {cnt u kd m : Nat} {L : am_L} {t av : Int32} (h : xc_L cnt L σ) (hcnt : cnt < 24) (hkd : kd ≤ 2) (hav : kd ≠ 0 → av = nI m) : xk_M (xc G) 0 y_L_add [.ref (xk_wA (xc G) 5), .int t, .int (nI u), .int (nI kd), .int av] σ (xk_pi (fun r τ => r = nI cnt ∧ xc_L (cnt + 1) (am_set L cnt (t, u, kd, if kd = 0 then 0 else m)) τ ∧ xc_fL σ τ)) := by
  obtain ⟨h1, h2⟩ := h
  have rest : ∀ (K : xk_K) (v : Int32), v = nI (if kd = 0 then 0 else m) → xk_E K c_L_add 5 → xk_H K (xc G) c_L_add 5 RL 0 (some .int) (xk_pi (fun r τ => r = nI cnt ∧ xc_L (cnt + 1) (am_set L cnt (t, u, kd, if kd = 0 then 0 else m)) τ ∧ xc_fL σ τ)) →
      xk_X K (xk_vw (xc G)) (xk_up (xk_up (xk_up σ 6 cnt t) 7 cnt (nI u)) 8 cnt (nI kd)) 48 [(0, .ref (xk_wA (xc G) 5)), (1, .int t), (2, .int (nI u)), (3, .int (nI kd)), (4, .int av)] [.int v, .int (nI cnt), .ref (xk_wA (xc G) 9)] := by
    intro K v hv hE hc
    refine x_iast hc rfl rfl (by omega) (by decide) d_L_add_48 ?_
    refine x_aload_n hE d_L_add_49 0 rfl ?_
    refine x_dup hE d_L_add_50 rfl ?_
    refine gf_L_24 hc d_L_add_51 (show _ = nI cnt by rw [xk_up_o (by decide), xk_up_o (by decide), xk_up_o (by decide), xk_up_o (by decide)]; exact h1) ?_
    refine x_iconst (nI 1) hE d_L_add_54 (by decide) ?_
    first | refine xn_iadd hE d_L_add_55 ?_ | refine x_iadd hE d_L_add_55 ?_
    refine pf_L_24 hc d_L_add_56 ?_
    refine x_aload_n hE d_L_add_59 0 rfl ?_
    refine gf_L_24 hc d_L_add_60 (by rw [xk_up_s, if_pos rfl]) ?_
    refine x_iconst (nI 1) hE d_L_add_63 (by decide) ?_
    first | refine xn_isub hE d_L_add_64 ?_ | refine x_isub hE d_L_add_64 ?_
    refine x_iret hc d_L_add_65 ⟨by congr 1, ⟨?_, fun e he => ?_⟩, rfl, fun k hk => ?_⟩
    · rw [xk_up_s, if_pos rfl]
    · simp (disch := omega) only [xk_up_s, xk_up_o]
      by_cases hec : e = cnt
      · subst hec
        rw [am_set_s]
        simp [hv]
      · rw [am_set_n hec, if_neg hec, if_neg hec, if_neg hec, if_neg hec]
        exact h2 e (by omega)
    · rw [xk_up_o (by omega), xk_up_o (by omega), xk_up_o (by omega), xk_up_o (by omega), xk_up_o (by omega)]
  refine xk_enter (by decide) (Nat.le_of_ble_eq_true rfl) (fun K hE hc => ?_)
  show xk_X K _ _ 0 [(0, _), (1, _), (2, _), (3, _), (4, _)] []
  refine x_aload_n hE d_L_add_0 0 rfl ?_
  refine gf_L_9 hc d_L_add_1 ?_
  refine x_aload_n hE d_L_add_4 0 rfl ?_
  refine gf_L_24 hc d_L_add_5 h1 ?_
  refine x_iload_n hE d_L_add_8 1 rfl ?_
  refine x_iast hc rfl rfl (by omega) (by decide) d_L_add_9 ?_
  refine x_aload_n hE d_L_add_10 0 rfl ?_
  refine gf_L_15 hc d_L_add_11 ?_
  refine x_aload_n hE d_L_add_14 0 rfl ?_
  refine gf_L_24 hc d_L_add_15 (show _ = nI cnt by rw [xk_up_o (by decide)]; exact h1) ?_
  refine x_iload_n hE d_L_add_18 2 rfl ?_
  refine x_iast hc rfl rfl (by omega) (by decide) d_L_add_19 ?_
  refine x_aload_n hE d_L_add_20 0 rfl ?_
  refine gf_L_18 hc d_L_add_21 ?_
  refine x_aload_n hE d_L_add_24 0 rfl ?_
  refine gf_L_24 hc d_L_add_25 (show _ = nI cnt by rw [xk_up_o (by decide), xk_up_o (by decide)]; exact h1) ?_
  refine x_iload_n hE d_L_add_28 3 rfl ?_
  refine x_iast hc rfl rfl (by omega) (by decide) d_L_add_29 ?_
  refine x_aload_n hE d_L_add_30 0 rfl ?_
  refine gf_L_21 hc d_L_add_31 ?_
  refine x_aload_n hE d_L_add_34 0 rfl ?_
  refine gf_L_24 hc d_L_add_35 (show _ = nI cnt by rw [xk_up_o (by decide), xk_up_o (by decide), xk_up_o (by decide)]; exact h1) ?_
  refine x_iload_n hE d_L_add_38 3 rfl ?_
  first | refine xn_if_ne hE d_L_add_39 (fun h => ?_) (fun h => ?_) | refine x_if_ne hE d_L_add_39 (fun h => ?_) (fun h => ?_)
  · skip
    refine x_iload hE d_L_add_46 4 rfl ?_
    exact rest K _ (by rw [if_neg h]; exact hav h) hE hc
  · skip
    refine x_iconst (nI 0) hE d_L_add_42 (by decide) ?_
    refine x_goto hE d_L_add_43 ?_
    exact rest K _ (by rw [if_pos h]) hE hc
theorem k_L_closeGap {cnt j c : Nat} (hsh : xc_S[c]? = some (.inl (0, 24))) (h1 : σ.1 5 4 = nI cnt) (hcnt : cnt ≤ 24) (hj : j < cnt) : xk_M (xc G) 1 y_L_closeGap [.ref (xk_wA (xc G) 5), .ref (xk_wA (xc G) c), .int (nI j)] σ (xk_pv (fun τ => τ = xk_row σ c (va_cpy (σ.1 c) (σ.1 c) (j + 1) j (cnt - j - 1)))) := by
  refine xk_enter (by decide) (Nat.le_of_ble_eq_true rfl) (fun K hE hc => ?_)
  show xk_X K _ _ 0 [(0, _), (1, _), (2, _)] []
  refine x_aload_n hE d_L_closeGap_0 1 rfl ?_
  refine x_iload_n hE d_L_closeGap_1 2 rfl ?_
  refine x_iconst (nI 1) hE d_L_closeGap_2 (by decide) ?_
  first | refine xn_iadd hE d_L_closeGap_3 ?_ | refine x_iadd hE d_L_closeGap_3 ?_
  refine x_aload_n hE d_L_closeGap_4 1 rfl ?_
  refine x_iload_n hE d_L_closeGap_5 2 rfl ?_
  refine x_aload_n hE d_L_closeGap_6 0 rfl ?_
  refine gf_L_24 hc d_L_closeGap_7 h1 ?_
  refine x_iload_n hE d_L_closeGap_10 2 rfl ?_
  first | refine xn_isub hE d_L_closeGap_11 ?_ | refine x_isub hE d_L_closeGap_11 ?_
  refine x_iconst (nI 1) hE d_L_closeGap_12 (by decide) ?_
  first | refine xn_isub hE d_L_closeGap_13 ?_ | refine x_isub hE d_L_closeGap_13 ?_
  refine xj_L_32 hc hsh (by omega) (by omega) (by decide) d_L_closeGap_14 (by decide) ?_
  exact x_ret hc d_L_closeGap_17 rfl
theorem xk_row_s (σ : xk_St) (k b : Nat) (f : Nat → Int32) : (xk_row σ k f).1 k b = f b := by simp [xk_row]
theorem xk_row_o {σ : xk_St} {k i : Nat} {f : Nat → Int32} (h : i ≠ k) : (xk_row σ k f).1 i = σ.1 i := (xk_row_ne i h).1
theorem k_L_remove {cnt j : Nat} {L : am_L} (h : xc_L cnt L σ) (hcnt : cnt ≤ 24) (hj : j < cnt) : xk_M (xc G) 2 y_L_remove [.ref (xk_wA (xc G) 5), .int (nI j)] σ (xk_pv (fun τ => xc_L (cnt - 1) (am_del L j) τ ∧ xc_fL σ τ)) := by
  obtain ⟨h1, h2⟩ := h
  refine xk_enter (by decide) (Nat.le_of_ble_eq_true rfl) (fun K hE hc => ?_)
  show xk_X K _ _ 0 [(0, _), (1, _)] []
  refine x_aload_n hE d_L_remove_0 0 rfl ?_
  refine x_aload_n hE d_L_remove_1 0 rfl ?_
  refine gf_L_9 hc d_L_remove_2 ?_
  refine x_iload_n hE d_L_remove_5 1 rfl ?_
  refine ca_L_28 hc d_L_remove_6 (k_L_closeGap (c := 6) rfl h1 hcnt hj) (fun τ hq => ?_)
  obtain rfl := hq
  refine x_aload_n hE d_L_remove_9 0 rfl ?_
  refine x_aload_n hE d_L_remove_10 0 rfl ?_
  refine gf_L_15 hc d_L_remove_11 ?_
  refine x_iload_n hE d_L_remove_14 1 rfl ?_
  refine ca_L_28 hc d_L_remove_15 (k_L_closeGap (c := 7) (cnt := cnt) rfl (by rw [xk_row_o (by decide)]; exact h1) hcnt hj) (fun τ hq => ?_)
  obtain rfl := hq
  refine x_aload_n hE d_L_remove_18 0 rfl ?_
  refine x_aload_n hE d_L_remove_19 0 rfl ?_
  refine gf_L_18 hc d_L_remove_20 ?_
  refine x_iload_n hE d_L_remove_23 1 rfl ?_
  refine ca_L_28 hc d_L_remove_24 (k_L_closeGap (c := 8) (cnt := cnt) rfl (by rw [xk_row_o (by decide), xk_row_o (by decide)]; exact h1) hcnt hj) (fun τ hq => ?_)
  obtain rfl := hq
  refine x_aload_n hE d_L_remove_27 0 rfl ?_
  refine x_aload_n hE d_L_remove_28 0 rfl ?_
  refine gf_L_21 hc d_L_remove_29 ?_
  refine x_iload_n hE d_L_remove_32 1 rfl ?_
  refine ca_L_28 hc d_L_remove_33 (k_L_closeGap (c := 9) (cnt := cnt) rfl (by rw [xk_row_o (by decide), xk_row_o (by decide), xk_row_o (by decide)]; exact h1) hcnt hj) (fun τ hq => ?_)
  obtain rfl := hq
  refine x_aload_n hE d_L_remove_36 0 rfl ?_
  refine x_dup hE d_L_remove_37 rfl ?_
  refine gf_L_24 hc d_L_remove_38 (show _ = nI cnt by rw [xk_row_o (by decide), xk_row_o (by decide), xk_row_o (by decide), xk_row_o (by decide)]; exact h1) ?_
  refine x_iconst (nI 1) hE d_L_remove_41 (by decide) ?_
  first | refine xn_isub hE d_L_remove_42 ?_ | refine x_isub hE d_L_remove_42 ?_
  refine pf_L_24 hc d_L_remove_43 ?_
  have key : ∀ f : Nat → Int32, ∀ e, e < cnt - 1 → va_cpy f f (j + 1) j (cnt - j - 1) e = f (if e < j then e else e + 1) := by
    intro f e he
    by_cases hej : e < j
    · rw [pk_cpy_out (by omega), if_pos hej]
    · rw [pk_cpy_in (by omega) (by omega), if_neg hej]
      congr 1
      omega
  refine x_ret hc d_L_remove_46 ⟨⟨?_, fun e he => ?_⟩, rfl, fun k hk => ?_⟩
  · rw [xk_up_s, if_pos rfl]
  · simp (disch := omega) only [xk_up_o, xk_row_s, xk_row_o]
    rw [key _ e he, key _ e he, key _ e he, key _ e he]
    unfold am_del
    by_cases hej : e < j
    · rw [if_pos hej, if_pos hej]
      exact h2 e (by omega)
    · rw [if_neg hej, if_neg hej]
      exact h2 (e + 1) (by omega)
  · rw [xk_up_o (by omega), xk_row_o (by omega), xk_row_o (by omega), xk_row_o (by omega), xk_row_o (by omega)]
end XLg
