/-! THE REFERENCE: replaying, the winner -/
section XM7
variable {G : xk_D} {σ : xk_St} {S : am_S}
/-- the rows 9..15 lie in 16..22, as far as they go -/
def xm_as (σ τ : xk_St) : Prop := (∀ i, i < 8 → τ.1 16 i = σ.1 9 i ∧ τ.1 17 i = σ.1 10 i ∧ τ.1 18 i = σ.1 11 i ∧ τ.1 19 i = σ.1 12 i ∧ τ.1 20 i = σ.1 13 i ∧ τ.1 22 i = σ.1 15 i) ∧ ∀ i, i < 512 → τ.1 21 i = σ.1 14 i
theorem k_M_layAside : xk_M (xm G) 0 y_M_layAside [.ref (xk_wA (xm G) 0)] σ (xk_pv (fun τ => xm_as σ τ ∧ τ.2 = σ.2 ∧ ∀ k, k < 16 ∨ 22 < k → τ.1 k = σ.1 k)) := by
  refine xk_enter (by decide) (Nat.le_of_ble_eq_true rfl) (fun K hE hc => ?_)
  show xk_X K _ _ 0 [(0, _)] []
  refine x_iconst (nI 0) hE d_M_layAside_0 (by decide) ?_
  refine x_istore_n [(1, _), (0, _)] hE d_M_layAside_1 rfl (by decide) rfl ?_
  refine x_lv [1, 0] (lv' := [(0, _), (1, _)]) rfl ?_
  have second : ∀ (m i : Nat) (τ : xk_St), i + m = 512 → (∀ j, j < 8 → τ.1 16 j = σ.1 9 j ∧ τ.1 17 j = σ.1 10 j ∧ τ.1 18 j = σ.1 11 j ∧ τ.1 19 j = σ.1 12 j ∧ τ.1 20 j = σ.1 13 j ∧ τ.1 22 j = σ.1 15 j) → (∀ j, j < i → τ.1 21 j = σ.1 14 j) → τ.2 = σ.2 → (∀ k, k < 16 ∨ 22 < k → τ.1 k = σ.1 k) → xk_X K (xk_vw (xm G)) τ 88 [(0, .ref (xk_wA (xm G) 0)), (1, .int (nI i))] [] := by
    intro m
    induction m with
    | zero =>
      intro i τ hi h1 h2 h3 h4
      refine x_iload_n hE d_M_layAside_88 1 rfl ?_
      refine x_sipush (nI 512) hE d_M_layAside_89 (by decide) ?_
      first | refine xn_icmp_ge hE d_M_layAside_92 (fun h => ?_) (fun h => ?_) | refine x_icmp_ge hE d_M_layAside_92 (fun h => ?_) (fun h => ?_)
      · skip
        exact x_ret hc d_M_layAside_113 (⟨⟨h1, fun j hj => h2 j (by omega)⟩, h3, h4⟩)
      · exact absurd h (by omega)
    | succ m ih =>
      intro i τ hi h1 h2 h3 h4
      refine x_iload_n hE d_M_layAside_88 1 rfl ?_
      refine x_sipush (nI 512) hE d_M_layAside_89 (by decide) ?_
      first | refine xn_icmp_ge hE d_M_layAside_92 (fun h => ?_) (fun h => ?_) | refine x_icmp_ge hE d_M_layAside_92 (fun h => ?_) (fun h => ?_)
      · exact absurd h (by omega)
      · skip
        refine x_aload_n hE d_M_layAside_95 0 rfl ?_
        refine gf_M_71 hc d_M_layAside_96 ?_
        refine x_iload_n hE d_M_layAside_99 1 rfl ?_
        refine x_aload_n hE d_M_layAside_100 0 rfl ?_
        refine gf_M_50 hc d_M_layAside_101 ?_
        refine x_iload_n hE d_M_layAside_104 1 rfl ?_
        refine x_iald hc rfl rfl (by omega) (by decide) d_M_layAside_105 (show _ = σ.1 14 i by rw [h4 14 (by omega)]) ?_
        refine x_iast hc rfl rfl (by omega) (by decide) d_M_layAside_106 ?_
        refine x_iinc 1 (nI (_ + 1)) [(1, _), (0, _)] hE d_M_layAside_107 rfl (nI_inc _) (by decide) rfl ?_
        refine x_goto hE d_M_layAside_110 ?_
        refine x_lv [1, 0] (lv' := [(0, _), (1, _)]) rfl ?_
        refine ih (i + 1) _ (by omega) (fun j hj => ?_) (fun j hj => ?_) h3 (fun k hk => by rw [xk_up_o (by omega)]; exact h4 k hk)
        · simp (disch := omega) only [xk_up_o]; exact h1 j hj
        · rw [xk_up_s]
          by_cases e : j = i
          · subst e; rw [if_pos rfl]
          · rw [if_neg e]; exact h2 j (by omega)
  have first : ∀ (m i : Nat) (τ : xk_St), i + m = 8 → (∀ j, j < i → τ.1 16 j = σ.1 9 j ∧ τ.1 17 j = σ.1 10 j ∧ τ.1 18 j = σ.1 11 j ∧ τ.1 19 j = σ.1 12 j ∧ τ.1 20 j = σ.1 13 j ∧ τ.1 22 j = σ.1 15 j) → τ.2 = σ.2 → (∀ k, k < 16 ∨ 22 < k → τ.1 k = σ.1 k) → xk_X K (xk_vw (xm G)) τ 2 [(0, .ref (xk_wA (xm G) 0)), (1, .int (nI i))] [] := by
    intro m
    induction m with
    | zero =>
      intro i τ hi h1 h3 h4
      refine x_iload_n hE d_M_layAside_2 1 rfl ?_
      refine x_bipush (nI 8) hE d_M_layAside_3 (by decide) ?_
      first | refine xn_icmp_ge hE d_M_layAside_5 (fun h => ?_) (fun h => ?_) | refine x_icmp_ge hE d_M_layAside_5 (fun h => ?_) (fun h => ?_)
      · skip
        refine x_iconst (nI 0) hE d_M_layAside_86 (by decide) ?_
        refine x_istore_n [(1, _), (0, _)] hE d_M_layAside_87 rfl (by decide) rfl ?_
        refine x_lv [1, 0] (lv' := [(0, _), (1, _)]) rfl ?_
        exact second 512 0 τ rfl (fun j hj => h1 j (by omega)) (fun j hj => absurd hj (Nat.not_lt_zero _)) h3 h4
      · exact absurd h (by omega)
    | succ m ih =>
      intro i τ hi h1 h3 h4
      refine x_iload_n hE d_M_layAside_2 1 rfl ?_
      refine x_bipush (nI 8) hE d_M_layAside_3 (by decide) ?_
      first | refine xn_icmp_ge hE d_M_layAside_5 (fun h => ?_) (fun h => ?_) | refine x_icmp_ge hE d_M_layAside_5 (fun h => ?_) (fun h => ?_)
      · exact absurd h (by omega)
      · skip
        refine x_aload_n hE d_M_layAside_8 0 rfl ?_
        refine gf_M_56 hc d_M_layAside_9 ?_
        refine x_iload_n hE d_M_layAside_12 1 rfl ?_
        refine x_aload_n hE d_M_layAside_13 0 rfl ?_
        refine gf_M_35 hc d_M_layAside_14 ?_
        refine x_iload_n hE d_M_layAside_17 1 rfl ?_
        refine x_iald hc rfl rfl (by omega) (by decide) d_M_layAside_18 (show _ = σ.1 9 i by rw [h4 9 (by omega)]) ?_
        refine x_iast hc rfl rfl (by omega) (by decide) d_M_layAside_19 ?_
        refine x_aload_n hE d_M_layAside_20 0 rfl ?_
        refine gf_M_59 hc d_M_layAside_21 ?_
        refine x_iload_n hE d_M_layAside_24 1 rfl ?_
        refine x_aload_n hE d_M_layAside_25 0 rfl ?_
        refine gf_M_38 hc d_M_layAside_26 ?_
        refine x_iload_n hE d_M_layAside_29 1 rfl ?_
        refine x_iald hc rfl rfl (by omega) (by decide) d_M_layAside_30 (show _ = σ.1 10 i by simp (disch := omega) only [xk_up_o]; rw [h4 10 (by omega)]) ?_
        refine x_iast hc rfl rfl (by omega) (by decide) d_M_layAside_31 ?_
        refine x_aload_n hE d_M_layAside_32 0 rfl ?_
        refine gf_M_62 hc d_M_layAside_33 ?_
        refine x_iload_n hE d_M_layAside_36 1 rfl ?_
        refine x_aload_n hE d_M_layAside_37 0 rfl ?_
        refine gf_M_41 hc d_M_layAside_38 ?_
        refine x_iload_n hE d_M_layAside_41 1 rfl ?_
        refine x_iald hc rfl rfl (by omega) (by decide) d_M_layAside_42 (show _ = σ.1 11 i by simp (disch := omega) only [xk_up_o]; rw [h4 11 (by omega)]) ?_
        refine x_iast hc rfl rfl (by omega) (by decide) d_M_layAside_43 ?_
        refine x_aload_n hE d_M_layAside_44 0 rfl ?_
        refine gf_M_65 hc d_M_layAside_45 ?_
        refine x_iload_n hE d_M_layAside_48 1 rfl ?_
        refine x_aload_n hE d_M_layAside_49 0 rfl ?_
        refine gf_M_44 hc d_M_layAside_50 ?_
        refine x_iload_n hE d_M_layAside_53 1 rfl ?_
        refine x_iald hc rfl rfl (by omega) (by decide) d_M_layAside_54 (show _ = σ.1 12 i by simp (disch := omega) only [xk_up_o]; rw [h4 12 (by omega)]) ?_
        refine x_iast hc rfl rfl (by omega) (by decide) d_M_layAside_55 ?_
        refine x_aload_n hE d_M_layAside_56 0 rfl ?_
        refine gf_M_68 hc d_M_layAside_57 ?_
        refine x_iload_n hE d_M_layAside_60 1 rfl ?_
        refine x_aload_n hE d_M_layAside_61 0 rfl ?_
        refine gf_M_47 hc d_M_layAside_62 ?_
        refine x_iload_n hE d_M_layAside_65 1 rfl ?_
        refine x_iald hc rfl rfl (by omega) (by decide) d_M_layAside_66 (show _ = σ.1 13 i by simp (disch := omega) only [xk_up_o]; rw [h4 13 (by omega)]) ?_
        refine x_iast hc rfl rfl (by omega) (by decide) d_M_layAside_67 ?_
        refine x_aload_n hE d_M_layAside_68 0 rfl ?_
        refine gf_M_74 hc d_M_layAside_69 ?_
        refine x_iload_n hE d_M_layAside_72 1 rfl ?_
        refine x_aload_n hE d_M_layAside_73 0 rfl ?_
        refine gf_M_53 hc d_M_layAside_74 ?_
        refine x_iload_n hE d_M_layAside_77 1 rfl ?_
        refine x_iald hc rfl rfl (by omega) (by decide) d_M_layAside_78 (show _ = σ.1 15 i by simp (disch := omega) only [xk_up_o]; rw [h4 15 (by omega)]) ?_
        refine x_iast hc rfl rfl (by omega) (by decide) d_M_layAside_79 ?_
        refine x_iinc 1 (nI (_ + 1)) [(1, _), (0, _)] hE d_M_layAside_80 rfl (nI_inc _) (by decide) rfl ?_
        refine x_goto hE d_M_layAside_83 ?_
        refine x_lv [1, 0] (lv' := [(0, _), (1, _)]) rfl ?_
        refine ih (i + 1) _ (by omega) (fun j hj => ?_) h3 (fun k hk => by simp (disch := omega) only [xk_up_o]; exact h4 k hk)
        simp (disch := omega) only [xk_up_s, xk_up_o]
        by_cases e : j = i
        · subst e
          rw [if_pos rfl, if_pos rfl, if_pos rfl, if_pos rfl, if_pos rfl, if_pos rfl]
          exact ⟨rfl, rfl, rfl, rfl, rfl, rfl⟩
        · rw [if_neg e, if_neg e, if_neg e, if_neg e, if_neg e, if_neg e]
          exact h1 j (by omega)
  exact first 8 0 σ rfl (fun j hj => absurd hj (Nat.not_lt_zero _)) rfl (fun _ _ => rfl)
theorem k_M_putBack : xk_M (xm G) 0 y_M_putBack [.ref (xk_wA (xm G) 0)] σ (xk_pv (fun τ => xm_as τ σ ∧ τ.2 = σ.2 ∧ ∀ k, k < 9 ∨ 15 < k → τ.1 k = σ.1 k)) := by
  refine xk_enter (by decide) (Nat.le_of_ble_eq_true rfl) (fun K hE hc => ?_)
  show xk_X K _ _ 0 [(0, _)] []
  refine x_iconst (nI 0) hE d_M_putBack_0 (by decide) ?_
  refine x_istore_n [(1, _), (0, _)] hE d_M_putBack_1 rfl (by decide) rfl ?_
  refine x_lv [1, 0] (lv' := [(0, _), (1, _)]) rfl ?_
  have second : ∀ (m i : Nat) (τ : xk_St), i + m = 512 → (∀ j, j < 8 → σ.1 16 j = τ.1 9 j ∧ σ.1 17 j = τ.1 10 j ∧ σ.1 18 j = τ.1 11 j ∧ σ.1 19 j = τ.1 12 j ∧ σ.1 20 j = τ.1 13 j ∧ σ.1 22 j = τ.1 15 j) → (∀ j, j < i → σ.1 21 j = τ.1 14 j) → τ.2 = σ.2 → (∀ k, k < 9 ∨ 15 < k → τ.1 k = σ.1 k) → xk_X K (xk_vw (xm G)) τ 88 [(0, .ref (xk_wA (xm G) 0)), (1, .int (nI i))] [] := by
    intro m
    induction m with
    | zero =>
      intro i τ hi h1 h2 h3 h4
      refine x_iload_n hE d_M_putBack_88 1 rfl ?_
      refine x_sipush (nI 512) hE d_M_putBack_89 (by decide) ?_
      first | refine xn_icmp_ge hE d_M_putBack_92 (fun h => ?_) (fun h => ?_) | refine x_icmp_ge hE d_M_putBack_92 (fun h => ?_) (fun h => ?_)
      · skip
        exact x_ret hc d_M_putBack_113 (⟨⟨h1, fun j hj => h2 j (by omega)⟩, h3, h4⟩)
      · exact absurd h (by omega)
    | succ m ih =>
      intro i τ hi h1 h2 h3 h4
      refine x_iload_n hE d_M_putBack_88 1 rfl ?_
      refine x_sipush (nI 512) hE d_M_putBack_89 (by decide) ?_
      first | refine xn_icmp_ge hE d_M_putBack_92 (fun h => ?_) (fun h => ?_) | refine x_icmp_ge hE d_M_putBack_92 (fun h => ?_) (fun h => ?_)
      · exact absurd h (by omega)
      · skip
        refine x_aload_n hE d_M_putBack_95 0 rfl ?_
        refine gf_M_50 hc d_M_putBack_96 ?_
        refine x_iload_n hE d_M_putBack_99 1 rfl ?_
        refine x_aload_n hE d_M_putBack_100 0 rfl ?_
        refine gf_M_71 hc d_M_putBack_101 ?_
        refine x_iload_n hE d_M_putBack_104 1 rfl ?_
        refine x_iald hc rfl rfl (by omega) (by decide) d_M_putBack_105 (show _ = σ.1 21 i by rw [h4 21 (by omega)]) ?_
        refine x_iast hc rfl rfl (by omega) (by decide) d_M_putBack_106 ?_
        refine x_iinc 1 (nI (_ + 1)) [(1, _), (0, _)] hE d_M_putBack_107 rfl (nI_inc _) (by decide) rfl ?_
        refine x_goto hE d_M_putBack_110 ?_
        refine x_lv [1, 0] (lv' := [(0, _), (1, _)]) rfl ?_
        refine ih (i + 1) _ (by omega) (fun j hj => ?_) (fun j hj => ?_) h3 (fun k hk => by rw [xk_up_o (by omega)]; exact h4 k hk)
        · simp (disch := omega) only [xk_up_o]; exact h1 j hj
        · rw [xk_up_s]
          by_cases e : j = i
          · subst e; rw [if_pos rfl]
          · rw [if_neg e]; exact h2 j (by omega)
  have first : ∀ (m i : Nat) (τ : xk_St), i + m = 8 → (∀ j, j < i → σ.1 16 j = τ.1 9 j ∧ σ.1 17 j = τ.1 10 j ∧ σ.1 18 j = τ.1 11 j ∧ σ.1 19 j = τ.1 12 j ∧ σ.1 20 j = τ.1 13 j ∧ σ.1 22 j = τ.1 15 j) → τ.2 = σ.2 → (∀ k, k < 9 ∨ 15 < k → τ.1 k = σ.1 k) → xk_X K (xk_vw (xm G)) τ 2 [(0, .ref (xk_wA (xm G) 0)), (1, .int (nI i))] [] := by
    intro m
    induction m with
    | zero =>
      intro i τ hi h1 h3 h4
      refine x_iload_n hE d_M_putBack_2 1 rfl ?_
      refine x_bipush (nI 8) hE d_M_putBack_3 (by decide) ?_
      first | refine xn_icmp_ge hE d_M_putBack_5 (fun h => ?_) (fun h => ?_) | refine x_icmp_ge hE d_M_putBack_5 (fun h => ?_) (fun h => ?_)
      · skip
        refine x_iconst (nI 0) hE d_M_putBack_86 (by decide) ?_
        refine x_istore_n [(1, _), (0, _)] hE d_M_putBack_87 rfl (by decide) rfl ?_
        refine x_lv [1, 0] (lv' := [(0, _), (1, _)]) rfl ?_
        exact second 512 0 τ rfl (fun j hj => h1 j (by omega)) (fun j hj => absurd hj (Nat.not_lt_zero _)) h3 h4
      · exact absurd h (by omega)
    | succ m ih =>
      intro i τ hi h1 h3 h4
      refine x_iload_n hE d_M_putBack_2 1 rfl ?_
      refine x_bipush (nI 8) hE d_M_putBack_3 (by decide) ?_
      first | refine xn_icmp_ge hE d_M_putBack_5 (fun h => ?_) (fun h => ?_) | refine x_icmp_ge hE d_M_putBack_5 (fun h => ?_) (fun h => ?_)
      · exact absurd h (by omega)
      · skip
        refine x_aload_n hE d_M_putBack_8 0 rfl ?_
        refine gf_M_35 hc d_M_putBack_9 ?_
        refine x_iload_n hE d_M_putBack_12 1 rfl ?_
        refine x_aload_n hE d_M_putBack_13 0 rfl ?_
        refine gf_M_56 hc d_M_putBack_14 ?_
        refine x_iload_n hE d_M_putBack_17 1 rfl ?_
        refine x_iald hc rfl rfl (by omega) (by decide) d_M_putBack_18 (show _ = σ.1 16 i by rw [h4 16 (by omega)]) ?_
        refine x_iast hc rfl rfl (by omega) (by decide) d_M_putBack_19 ?_
        refine x_aload_n hE d_M_putBack_20 0 rfl ?_
        refine gf_M_38 hc d_M_putBack_21 ?_
        refine x_iload_n hE d_M_putBack_24 1 rfl ?_
        refine x_aload_n hE d_M_putBack_25 0 rfl ?_
        refine gf_M_59 hc d_M_putBack_26 ?_
        refine x_iload_n hE d_M_putBack_29 1 rfl ?_
        refine x_iald hc rfl rfl (by omega) (by decide) d_M_putBack_30 (show _ = σ.1 17 i by simp (disch := omega) only [xk_up_o]; rw [h4 17 (by omega)]) ?_
        refine x_iast hc rfl rfl (by omega) (by decide) d_M_putBack_31 ?_
        refine x_aload_n hE d_M_putBack_32 0 rfl ?_
        refine gf_M_41 hc d_M_putBack_33 ?_
        refine x_iload_n hE d_M_putBack_36 1 rfl ?_
        refine x_aload_n hE d_M_putBack_37 0 rfl ?_
        refine gf_M_62 hc d_M_putBack_38 ?_
        refine x_iload_n hE d_M_putBack_41 1 rfl ?_
        refine x_iald hc rfl rfl (by omega) (by decide) d_M_putBack_42 (show _ = σ.1 18 i by simp (disch := omega) only [xk_up_o]; rw [h4 18 (by omega)]) ?_
        refine x_iast hc rfl rfl (by omega) (by decide) d_M_putBack_43 ?_
        refine x_aload_n hE d_M_putBack_44 0 rfl ?_
        refine gf_M_44 hc d_M_putBack_45 ?_
        refine x_iload_n hE d_M_putBack_48 1 rfl ?_
        refine x_aload_n hE d_M_putBack_49 0 rfl ?_
        refine gf_M_65 hc d_M_putBack_50 ?_
        refine x_iload_n hE d_M_putBack_53 1 rfl ?_
        refine x_iald hc rfl rfl (by omega) (by decide) d_M_putBack_54 (show _ = σ.1 19 i by simp (disch := omega) only [xk_up_o]; rw [h4 19 (by omega)]) ?_
        refine x_iast hc rfl rfl (by omega) (by decide) d_M_putBack_55 ?_
        refine x_aload_n hE d_M_putBack_56 0 rfl ?_
        refine gf_M_47 hc d_M_putBack_57 ?_
        refine x_iload_n hE d_M_putBack_60 1 rfl ?_
        refine x_aload_n hE d_M_putBack_61 0 rfl ?_
        refine gf_M_68 hc d_M_putBack_62 ?_
        refine x_iload_n hE d_M_putBack_65 1 rfl ?_
        refine x_iald hc rfl rfl (by omega) (by decide) d_M_putBack_66 (show _ = σ.1 20 i by simp (disch := omega) only [xk_up_o]; rw [h4 20 (by omega)]) ?_
        refine x_iast hc rfl rfl (by omega) (by decide) d_M_putBack_67 ?_
        refine x_aload_n hE d_M_putBack_68 0 rfl ?_
        refine gf_M_53 hc d_M_putBack_69 ?_
        refine x_iload_n hE d_M_putBack_72 1 rfl ?_
        refine x_aload_n hE d_M_putBack_73 0 rfl ?_
        refine gf_M_74 hc d_M_putBack_74 ?_
        refine x_iload_n hE d_M_putBack_77 1 rfl ?_
        refine x_iald hc rfl rfl (by omega) (by decide) d_M_putBack_78 (show _ = σ.1 22 i by simp (disch := omega) only [xk_up_o]; rw [h4 22 (by omega)]) ?_
        refine x_iast hc rfl rfl (by omega) (by decide) d_M_putBack_79 ?_
        refine x_iinc 1 (nI (_ + 1)) [(1, _), (0, _)] hE d_M_putBack_80 rfl (nI_inc _) (by decide) rfl ?_
        refine x_goto hE d_M_putBack_83 ?_
        refine x_lv [1, 0] (lv' := [(0, _), (1, _)]) rfl ?_
        refine ih (i + 1) _ (by omega) (fun j hj => ?_) h3 (fun k hk => by simp (disch := omega) only [xk_up_o]; exact h4 k hk)
        simp (disch := omega) only [xk_up_s, xk_up_o]
        by_cases e : j = i
        · subst e
          rw [if_pos rfl, if_pos rfl, if_pos rfl, if_pos rfl, if_pos rfl, if_pos rfl]
          exact ⟨rfl, rfl, rfl, rfl, rfl, rfl⟩
        · rw [if_neg e, if_neg e, if_neg e, if_neg e, if_neg e, if_neg e]
          exact h1 j (by omega)
  exact first 8 0 σ rfl (fun j hj => absurd hj (Nat.not_lt_zero _)) rfl (fun _ _ => rfl)
theorem k_M_replay (hR : xm_R S σ) (hS : am_okS S) : xk_M (xm G) 5 y_M_replay [.ref (xk_wA (xm G) 0)] σ (xk_pi (fun r τ => r = am_replay S ∧ xm_R S τ)) := by
  have h200 := hS.2.2.1
  have hn8 := hS.1
  obtain ⟨r1, r2, r3, r4, r5, r6, r7, r8⟩ := hR
  refine xk_enter (by decide) (Nat.le_of_ble_eq_true rfl) (fun K hE hc => ?_)
  show xk_X K _ _ 0 [(0, _)] []
  refine x_aload_n hE d_M_replay_0 0 rfl ?_
  refine ca_M_149 hc d_M_replay_1 (k_M_layAside) (fun τ hq => ?_)
  obtain ⟨a1, a2, a3⟩ := hq
  obtain ⟨τ0, rfl⟩ : ∃ z, z = τ := ⟨_, rfl⟩
  refine x_iconst (nI 0) hE d_M_replay_4 (by decide) ?_
  refine x_istore_n [(1, _), (0, _)] hE d_M_replay_5 rfl (by decide) rfl ?_
  refine x_lv [1, 0] (lv' := [(0, _), (1, _)]) rfl ?_
  have fin : ∀ (τ : xk_St) (v2 : Int32) (v : Int32), v = am_replay S → xm_fr τ0 τ → xk_X K (xk_vw (xm G)) τ 101 [(0, .ref (xk_wA (xm G) 0)), (1, .int v), (2, .int v2)] [] := by
    intro τ v2 v hv hf
    refine x_aload_n hE d_M_replay_101 0 rfl ?_
    refine ca_M_152 hc d_M_replay_102 (k_M_putBack) (fun τ hq => ?_)
    obtain ⟨b1, b2, b3⟩ := hq
    obtain ⟨τ9, rfl⟩ : ∃ z, z = τ := ⟨_, rfl⟩
    refine x_iload_n hE d_M_replay_105 1 rfl ?_
    have low : ∀ k, k < 9 → τ9.1 k = σ.1 k := fun k hk => by rw [b3 k (by omega), hf.2 k (by omega), a3 k (by omega)]
    have mid : ∀ i, i < 8 → τ9.1 9 i = σ.1 9 i ∧ τ9.1 10 i = σ.1 10 i ∧ τ9.1 11 i = σ.1 11 i ∧ τ9.1 12 i = σ.1 12 i ∧ τ9.1 13 i = σ.1 13 i ∧ τ9.1 15 i = σ.1 15 i := fun i hi => by
      obtain ⟨c1, c2, c3, c4, c5, c6⟩ := b1.1 i hi
      obtain ⟨d1, d2, d3, d4, d5, d6⟩ := a1.1 i hi
      rw [← c1, ← c2, ← c3, ← c4, ← c5, ← c6, hf.2 16 (by omega), hf.2 17 (by omega), hf.2 18 (by omega), hf.2 19 (by omega), hf.2 20 (by omega), hf.2 22 (by omega)]
      exact ⟨d1, d2, d3, d4, d5, d6⟩
    have pat : ∀ i, i < 512 → τ9.1 14 i = σ.1 14 i := fun i hi => by
      rw [← b1.2 i hi, hf.2 21 (by omega)]
      exact a1.2 i hi
    refine x_iret hc d_M_replay_106 ⟨hv, r1.mv (low 1 (by omega)), ?_, ?_, fun i hi => ?_, r5.mv low, ⟨?_, fun u hu => ?_⟩, fun u hu => ?_, fun q u h1 h2 => ?_⟩
    · rw [low 0 (by omega)]; exact r2
    · rw [low 0 (by omega)]; exact r3
    · rw [low 4 (by omega)]; exact r4 i hi
    · rw [low 0 (by omega)]; exact r6.1
    · obtain ⟨g1, g2, g3, g4, g5, g6, g7, g8⟩ := r6.2 u hu
      obtain ⟨c1, c2, c3, c4, c5, c6⟩ := mid u (by omega)
      refine ⟨by rw [c1]; exact g1, by rw [c2]; exact g2, by rw [c3]; exact g3, by rw [c4]; exact g4, by rw [c5]; exact g5, by rw [c6]; exact g6, g7, fun i hi => ?_⟩
      rw [pat _ (by omega)]
      exact g8 i hi
    · rw [low 2 (by omega), low 3 (by omega)]; exact r7 u hu
    · obtain ⟨c1, c2, c3, c4, c5, c6⟩ := mid u h2
      rw [c3, c4, c5, c6]
      exact r8 q u h1 h2
  have run : ∀ (f t : Nat) (P : am_P) (τ : xk_St), t + f = aPl S → xm_pl (aN S) P τ → am_okP (aN S) P → xm_fr τ0 τ → am_rp S f t P = am_replay S → xk_X K (xk_vw (xm G)) τ 63 [(0, .ref (xk_wA (xm G) 0)), (1, .int (-1)), (2, .int (nI t))] [] := by
    intro f
    induction f with
    | zero =>
      intro t P τ ht hpl hok hf he
      have hp : τ.1 0 5 = nI (aPl S) := by rw [hf.2 0 (by omega), a3 0 (by omega)]; exact r3
      refine x_iload_n hE d_M_replay_63 2 rfl ?_
      refine x_aload_n hE d_M_replay_64 0 rfl ?_
      refine gf_M_107 hc d_M_replay_65 hp ?_
      first | refine xn_icmp_ge hE d_M_replay_68 (fun h => ?_) (fun h => ?_) | refine x_icmp_ge hE d_M_replay_68 (fun h => ?_) (fun h => ?_)
      · exact fin τ _ _ he hf
      · exact absurd h (by omega)
    | succ f ih =>
      intro t P τ ht hpl hok hf he
      have hp : τ.1 0 5 = nI (aPl S) := by rw [hf.2 0 (by omega), a3 0 (by omega)]; exact r3
      have hW2 : xm_W (aW S) τ := r1.mv (by rw [hf.2 1 (by omega), a3 1 (by omega)])
      have hL2 : xm_L (aCn S) (aL S) τ := r5.mv (fun k hk => by rw [hf.2 k (by omega), a3 k (by omega)])
      refine x_iload_n hE d_M_replay_63 2 rfl ?_
      refine x_aload_n hE d_M_replay_64 0 rfl ?_
      refine gf_M_107 hc d_M_replay_65 hp ?_
      first | refine xn_icmp_ge hE d_M_replay_68 (fun h => ?_) (fun h => ?_) | refine x_icmp_ge hE d_M_replay_68 (fun h => ?_) (fun h => ?_)
      · exact absurd h (by omega)
      · skip
        refine x_iload_n hE d_M_replay_71 1 rfl ?_
        refine x_if_ge hE d_M_replay_72 (fun z => ?_) (fun z => ?_)
        · exact absurd z (by decide)
        · skip
          refine x_aload_n hE d_M_replay_75 0 rfl ?_
          refine x_iload_n hE d_M_replay_76 2 rfl ?_
          refine ca_M_145 hc d_M_replay_77 (k_M_play hn8 hpl hok hW2 (show t < 2 ^ 31 by omega) hL2 hS.2.2.2.1) (fun r τ hq => ?_)
          obtain ⟨rfl, p1, p2⟩ := hq
          have hf2 := hf.tr p2
          refine x_aload_n hE d_M_replay_80 0 rfl ?_
          refine gf_M_20 hc d_M_replay_81 ?_
          refine x_iload_n hE d_M_replay_84 2 rfl ?_
          refine x_iald hc rfl rfl (by omega) (by decide) d_M_replay_85 (show _ = aNm S t by rw [hf2.2 4 (by omega), a3 4 (by omega)]; exact r4 t (by omega)) ?_
          rw [am_rp] at he
          refine x_icmp_ne hE d_M_replay_86 (fun g => ?_) (fun g => ?_)
          · skip
            rw [if_neg g] at he
            refine x_iload_n hE d_M_replay_93 2 rfl ?_
            refine x_istore_n [(1, _), (0, _), (2, _)] hE d_M_replay_94 rfl (by decide) rfl ?_
            refine x_iinc 2 (nI (_ + 1)) [(2, _), (1, _), (0, _)] hE d_M_replay_95 rfl (nI_inc _) (by decide) rfl ?_
            refine x_goto hE d_M_replay_98 ?_
            refine x_lv [2, 1, 0] (lv' := [(0, _), (1, _), (2, _)]) rfl ?_
            obtain ⟨τ8, rfl⟩ : ∃ z, z = τ := ⟨_, rfl⟩
            have hp8 : τ8.1 0 5 = nI (aPl S) := by rw [hf2.2 0 (by omega), a3 0 (by omega)]; exact r3
            refine x_iload_n hE d_M_replay_63 2 rfl ?_
            refine x_aload_n hE d_M_replay_64 0 rfl ?_
            refine gf_M_107 hc d_M_replay_65 hp8 ?_
            first | refine xn_icmp_ge hE d_M_replay_68 (fun h5 => ?_) (fun h5 => ?_) | refine x_icmp_ge hE d_M_replay_68 (fun h5 => ?_) (fun h5 => ?_)
            · exact fin _ _ _ he hf2
            · skip
              refine x_iload_n hE d_M_replay_71 1 rfl ?_
              first | refine xn_if_ge hE d_M_replay_72 (fun h6 => ?_) (fun h6 => ?_) | refine x_if_ge hE d_M_replay_72 (fun h6 => ?_) (fun h6 => ?_)
              · exact fin _ _ _ he hf2
              · exact absurd h6 not_false
          · skip
            rw [if_pos g] at he
            refine x_iconst (-1) hE d_M_replay_89 (by decide) ?_
            refine x_goto hE d_M_replay_90 ?_
            refine x_istore_n [(1, _), (0, _), (2, _)] hE d_M_replay_94 rfl (by decide) rfl ?_
            refine x_iinc 2 (nI (_ + 1)) [(2, _), (1, _), (0, _)] hE d_M_replay_95 rfl (nI_inc _) (by decide) rfl ?_
            refine x_goto hE d_M_replay_98 ?_
            refine x_lv [2, 1, 0] (lv' := [(0, _), (1, _), (2, _)]) rfl ?_
            exact ih (t + 1) _ _ (by omega) p1 (am_okP_tick hok hS.2.2.2.1) hf2 he
  have reset : ∀ (m u : Nat) (τ : xk_St), u + m = aN S → (∀ v, v < u → xm_at τ v (20, aSt S v, 0, 0, 0, [])) → xm_fr τ0 τ → xk_X K (xk_vw (xm G)) τ 6 [(0, .ref (xk_wA (xm G) 0)), (1, .int (nI u))] [] := by
    intro m
    induction m with
    | zero =>
      intro u τ hu hat hf
      have hn : τ.1 0 1 = nI (aN S) := by rw [hf.2 0 (by omega), a3 0 (by omega)]; exact r6.1
      refine x_iload_n hE d_M_replay_6 1 rfl ?_
      refine x_aload_n hE d_M_replay_7 0 rfl ?_
      refine gf_M_89 hc d_M_replay_8 hn ?_
      first | refine xn_icmp_ge hE d_M_replay_11 (fun h => ?_) (fun h => ?_) | refine x_icmp_ge hE d_M_replay_11 (fun h => ?_) (fun h => ?_)
      · skip
        refine x_iconst (-1) hE d_M_replay_59 (by decide) ?_
        refine x_istore_n [(1, _), (0, _)] hE d_M_replay_60 rfl (by decide) rfl ?_
        refine x_iconst (nI 0) hE d_M_replay_61 (by decide) ?_
        refine x_istore_n [(2, _), (1, _), (0, _)] hE d_M_replay_62 rfl (by decide) rfl ?_
        refine x_lv [2, 1, 0] (lv' := [(0, _), (1, _), (2, _)]) rfl ?_
        exact run (aPl S) 0 _ τ (by omega) ⟨hn, fun v hv => hat v (by omega)⟩ (am_okP_0 hS) hf rfl
      · exact absurd h (by omega)
    | succ m ih =>
      intro u τ hu hat hf
      have hn : τ.1 0 1 = nI (aN S) := by rw [hf.2 0 (by omega), a3 0 (by omega)]; exact r6.1
      have hst : τ.1 3 u = nI (aSt S u) := by rw [hf.2 3 (by omega), a3 3 (by omega)]; exact (r7 u (by omega)).2
      refine x_iload_n hE d_M_replay_6 1 rfl ?_
      refine x_aload_n hE d_M_replay_7 0 rfl ?_
      refine gf_M_89 hc d_M_replay_8 hn ?_
      first | refine xn_icmp_ge hE d_M_replay_11 (fun h => ?_) (fun h => ?_) | refine x_icmp_ge hE d_M_replay_11 (fun h => ?_) (fun h => ?_)
      · exact absurd h (by omega)
      · skip
        refine x_aload_n hE d_M_replay_14 0 rfl ?_
        refine gf_M_35 hc d_M_replay_15 ?_
        refine x_iload_n hE d_M_replay_18 1 rfl ?_
        refine x_bipush (nI 20) hE d_M_replay_19 (by decide) ?_
        refine x_iast hc rfl rfl (by omega) (by decide) d_M_replay_21 ?_
        refine x_aload_n hE d_M_replay_22 0 rfl ?_
        refine gf_M_38 hc d_M_replay_23 ?_
        refine x_iload_n hE d_M_replay_26 1 rfl ?_
        refine x_aload_n hE d_M_replay_27 0 rfl ?_
        refine gf_M_17 hc d_M_replay_28 ?_
        refine x_iload_n hE d_M_replay_31 1 rfl ?_
        refine x_iald hc rfl rfl (by omega) (by decide) d_M_replay_32 (show _ = nI (aSt S u) by simp (disch := omega) only [xk_up_o]; exact hst) ?_
        refine x_iast hc rfl rfl (by omega) (by decide) d_M_replay_33 ?_
        refine x_aload_n hE d_M_replay_34 0 rfl ?_
        refine x_iload_n hE d_M_replay_35 1 rfl ?_
        refine ca_M_121 hc d_M_replay_36 (k_M_stop (by omega)) (fun τ hq => ?_)
        obtain rfl := hq
        refine x_aload_n hE d_M_replay_39 0 rfl ?_
        refine gf_M_47 hc d_M_replay_40 ?_
        refine x_iload_n hE d_M_replay_43 1 rfl ?_
        refine x_iconst (nI 0) hE d_M_replay_44 (by decide) ?_
        refine x_iast hc rfl rfl (by omega) (by decide) d_M_replay_45 ?_
        refine x_aload_n hE d_M_replay_46 0 rfl ?_
        refine gf_M_53 hc d_M_replay_47 ?_
        refine x_iload_n hE d_M_replay_50 1 rfl ?_
        refine x_iconst (nI 0) hE d_M_replay_51 (by decide) ?_
        refine x_iast hc rfl rfl (by omega) (by decide) d_M_replay_52 ?_
        refine x_iinc 1 (nI (_ + 1)) [(1, _), (0, _)] hE d_M_replay_53 rfl (nI_inc _) (by decide) rfl ?_
        refine x_goto hE d_M_replay_56 ?_
        refine x_lv [1, 0] (lv' := [(0, _), (1, _)]) rfl ?_
        have hone : xm_one u τ (xk_up (xk_up (xk_up (xk_up (xk_up (xk_up τ 9 u (nI 20)) 10 u (nI (aSt S u))) 11 u (nI 0)) 12 u (nI 0)) 13 u (nI 0)) 15 u (nI 0)) := (((((xm_one.up (by decide) (by decide) (by decide)).tr (xm_one.up (by decide) (by decide) (by decide))).tr (xm_one.up (by decide) (by decide) (by decide))).tr (xm_one.up (by decide) (by decide) (by decide))).tr (xm_one.up (by decide) (by decide) (by decide))).tr (xm_one.up (by decide) (by decide) (by decide))
        refine ih (u + 1) _ (by omega) (fun v hv => ?_) (hf.tr hone.fr)
        by_cases e : v = u
        · subst e
          refine ⟨?_, fun _ => ?_, ?_, ?_, ?_, ?_, Nat.zero_le _, fun i hi => absurd hi (Nat.not_lt_zero _)⟩
          all_goals simp (disch := omega) only [xk_up_s, xk_up_o]
          all_goals rfl
        · obtain ⟨g1, g2, g3, g4, g5, g6, g7, g8⟩ := hat v (by omega)
          refine ⟨?_, ?_, ?_, ?_, ?_, ?_, g7, fun i hi => absurd hi (Nat.not_lt_zero _)⟩
          all_goals simp (disch := omega) only [xk_up_s, xk_up_o]
          · rw [if_neg e]; exact g1
          · rw [if_neg e]; exact g2
          · rw [if_neg e]; exact g3
          · rw [if_neg e]; exact g4
          · rw [if_neg e]; exact g5
          · rw [if_neg e]; exact g6
  exact reset (aN S) 0 τ0 (by omega) (fun v hv => absurd hv (Nat.not_lt_zero _)) xm_fr.rf
theorem k_M_winner (hR : xm_R S σ) (hS : am_okS S) : xk_M (xm G) 0 y_M_winner [.ref (xk_wA (xm G) 0)] σ (xk_pi (fun r τ => r = am_winner S ∧ xm_R S τ)) := by
  have hn8 := hS.1
  have r6 := hR.2.2.2.2.2.1
  have r7 := hR.2.2.2.2.2.2.1
  refine xk_enter (by decide) (Nat.le_of_ble_eq_true rfl) (fun K hE hc => ?_)
  show xk_X K _ _ 0 [(0, _)] []
  refine x_iconst (nI 0) hE d_M_winner_0 (by decide) ?_
  refine x_istore_n [(1, _), (0, _)] hE d_M_winner_1 rfl (by decide) rfl ?_
  refine x_iconst (nI 0) hE d_M_winner_2 (by decide) ?_
  refine x_istore_n [(2, _), (1, _), (0, _)] hE d_M_winner_3 rfl (by decide) rfl ?_
  refine x_iconst (nI 0) hE d_M_winner_4 (by decide) ?_
  refine x_istore_n [(3, _), (2, _), (1, _), (0, _)] hE d_M_winner_5 rfl (by decide) rfl ?_
  refine x_lv [3, 2, 1, 0] (lv' := [(0, _), (1, _), (2, _), (3, _)]) rfl ?_
  have loop : ∀ (m u : Nat), u + m = aN S → xk_X K (xk_vw (xm G)) σ 6 [(0, .ref (xk_wA (xm G) 0)), (1, .int (nI (if am_liv (aSd S) (aP S) 0 u = true then 1 else 0))), (2, .int (nI (if am_liv (aSd S) (aP S) 1 u = true then 1 else 0))), (3, .int (nI u))] [] := by
    intro m
    induction m with
    | zero =>
      intro u hu
      have e0 : u = aN S := by omega
      subst e0
      have e : am_winner S = (if am_liv (aSd S) (aP S) 0 (aN S) = true ∧ am_liv (aSd S) (aP S) 1 (aN S) = true then nI 2 else if am_liv (aSd S) (aP S) 0 (aN S) = true then nI 0 else if am_liv (aSd S) (aP S) 1 (aN S) = true then nI 1 else nI 3) := rfl
      cases h0 : am_liv (aSd S) (aP S) 0 (aN S) <;> cases h1 : am_liv (aSd S) (aP S) 1 (aN S)
      · skip
        refine x_iload_n hE d_M_winner_6 3 rfl ?_
        refine x_aload_n hE d_M_winner_7 0 rfl ?_
        refine gf_M_89 hc d_M_winner_8 r6.1 ?_
        first | refine xn_icmp_ge hE d_M_winner_11 (fun h => ?_) (fun h => ?_) | refine x_icmp_ge hE d_M_winner_11 (fun h => ?_) (fun h => ?_)
        · skip
          refine x_iload_n hE d_M_winner_77 1 rfl ?_
          first | refine xn_if_eq hE d_M_winner_78 (fun z => ?_) (fun z => ?_) | refine x_if_eq hE d_M_winner_78 (fun z => ?_) (fun z => ?_)
          · skip
            refine x_iload_n hE d_M_winner_89 1 rfl ?_
            first | refine xn_if_eq hE d_M_winner_90 (fun y => ?_) (fun y => ?_) | refine x_if_eq hE d_M_winner_90 (fun y => ?_) (fun y => ?_)
            · skip
              refine x_iload_n hE d_M_winner_97 2 rfl ?_
              first | refine xn_if_eq hE d_M_winner_98 (fun x => ?_) (fun x => ?_) | refine x_if_eq hE d_M_winner_98 (fun x => ?_) (fun x => ?_)
              · skip
                refine x_iconst (nI 3) hE d_M_winner_105 (by decide) ?_
                exact x_iret hc d_M_winner_106 (⟨by rw [e, h0, h1]; rfl, hR⟩)
              · exact absurd rfl x
            · exact absurd rfl y
          · exact absurd rfl z
        · exact absurd h (by omega)
      · skip
        refine x_iload_n hE d_M_winner_6 3 rfl ?_
        refine x_aload_n hE d_M_winner_7 0 rfl ?_
        refine gf_M_89 hc d_M_winner_8 r6.1 ?_
        first | refine xn_icmp_ge hE d_M_winner_11 (fun h => ?_) (fun h => ?_) | refine x_icmp_ge hE d_M_winner_11 (fun h => ?_) (fun h => ?_)
        · skip
          refine x_iload_n hE d_M_winner_77 1 rfl ?_
          first | refine xn_if_eq hE d_M_winner_78 (fun z => ?_) (fun z => ?_) | refine x_if_eq hE d_M_winner_78 (fun z => ?_) (fun z => ?_)
          · skip
            refine x_iload_n hE d_M_winner_89 1 rfl ?_
            first | refine xn_if_eq hE d_M_winner_90 (fun y => ?_) (fun y => ?_) | refine x_if_eq hE d_M_winner_90 (fun y => ?_) (fun y => ?_)
            · skip
              refine x_iload_n hE d_M_winner_97 2 rfl ?_
              first | refine xn_if_eq hE d_M_winner_98 (fun x => ?_) (fun x => ?_) | refine x_if_eq hE d_M_winner_98 (fun x => ?_) (fun x => ?_)
              · exact absurd x (by decide)
              · skip
                refine x_iconst (nI 1) hE d_M_winner_101 (by decide) ?_
                refine x_goto hE d_M_winner_102 ?_
                exact x_iret hc d_M_winner_106 (⟨by rw [e, h0, h1]; rfl, hR⟩)
            · exact absurd rfl y
          · exact absurd rfl z
        · exact absurd h (by omega)
      · skip
        refine x_iload_n hE d_M_winner_6 3 rfl ?_
        refine x_aload_n hE d_M_winner_7 0 rfl ?_
        refine gf_M_89 hc d_M_winner_8 r6.1 ?_
        first | refine xn_icmp_ge hE d_M_winner_11 (fun h => ?_) (fun h => ?_) | refine x_icmp_ge hE d_M_winner_11 (fun h => ?_) (fun h => ?_)
        · skip
          refine x_iload_n hE d_M_winner_77 1 rfl ?_
          first | refine xn_if_eq hE d_M_winner_78 (fun z => ?_) (fun z => ?_) | refine x_if_eq hE d_M_winner_78 (fun z => ?_) (fun z => ?_)
          · exact absurd z (by decide)
          · skip
            refine x_iload_n hE d_M_winner_81 2 rfl ?_
            first | refine xn_if_eq hE d_M_winner_82 (fun y => ?_) (fun y => ?_) | refine x_if_eq hE d_M_winner_82 (fun y => ?_) (fun y => ?_)
            · skip
              refine x_iload_n hE d_M_winner_89 1 rfl ?_
              first | refine xn_if_eq hE d_M_winner_90 (fun x => ?_) (fun x => ?_) | refine x_if_eq hE d_M_winner_90 (fun x => ?_) (fun x => ?_)
              · exact absurd x (by decide)
              · skip
                refine x_iconst (nI 0) hE d_M_winner_93 (by decide) ?_
                refine x_goto hE d_M_winner_94 ?_
                exact x_iret hc d_M_winner_106 (⟨by rw [e, h0, h1]; rfl, hR⟩)
            · exact absurd rfl y
        · exact absurd h (by omega)
      · skip
        refine x_iload_n hE d_M_winner_6 3 rfl ?_
        refine x_aload_n hE d_M_winner_7 0 rfl ?_
        refine gf_M_89 hc d_M_winner_8 r6.1 ?_
        first | refine xn_icmp_ge hE d_M_winner_11 (fun h => ?_) (fun h => ?_) | refine x_icmp_ge hE d_M_winner_11 (fun h => ?_) (fun h => ?_)
        · skip
          refine x_iload_n hE d_M_winner_77 1 rfl ?_
          first | refine xn_if_eq hE d_M_winner_78 (fun z => ?_) (fun z => ?_) | refine x_if_eq hE d_M_winner_78 (fun z => ?_) (fun z => ?_)
          · exact absurd z (by decide)
          · skip
            refine x_iload_n hE d_M_winner_81 2 rfl ?_
            first | refine xn_if_eq hE d_M_winner_82 (fun y => ?_) (fun y => ?_) | refine x_if_eq hE d_M_winner_82 (fun y => ?_) (fun y => ?_)
            · exact absurd y (by decide)
            · skip
              refine x_iconst (nI 2) hE d_M_winner_85 (by decide) ?_
              refine x_goto hE d_M_winner_86 ?_
              exact x_iret hc d_M_winner_106 (⟨by rw [e, h0, h1]; rfl, hR⟩)
        · exact absurd h (by omega)
    | succ m ih =>
      intro u hu
      have hat := r6.2 u (by omega)
      have hx := hS.2.2.2.2 u (by omega)
      have hb := hx.1
      have hsd := (r7 u (by omega)).1
      have hs2 := (hS.2.1 u (by omega)).1
      have next : ∀ (v w : Nat), v = (if am_liv (aSd S) (aP S) 0 (u + 1) = true then 1 else 0) → w = (if am_liv (aSd S) (aP S) 1 (u + 1) = true then 1 else 0) → xk_X K (xk_vw (xm G)) σ 70 [(1, .int (nI v)), (0, .ref (xk_wA (xm G) 0)), (2, .int (nI (if am_liv (aSd S) (aP S) 1 u = true then 1 else 0))), (3, .int (nI u))] [.int (nI w)] := by
        intro v w hv hw
        refine x_istore_n [(2, _), (1, _), (0, _), (3, _)] hE d_M_winner_70 rfl (by decide) rfl ?_
        refine x_iinc 3 (nI (_ + 1)) [(3, _), (2, _), (1, _), (0, _)] hE d_M_winner_71 rfl (nI_inc _) (by decide) rfl ?_
        refine x_goto hE d_M_winner_74 ?_
        refine x_lv [3, 2, 1, 0] (lv' := [(0, _), (1, _), (2, _), (3, _)]) rfl ?_
        rw [hv, hw]
        exact ih (u + 1) (by omega)
      have half : ∀ (v : Nat), v = (if am_liv (aSd S) (aP S) 0 (u + 1) = true then 1 else 0) → xk_X K (xk_vw (xm G)) σ 41 [(0, .ref (xk_wA (xm G) 0)), (1, .int (nI (if am_liv (aSd S) (aP S) 0 u = true then 1 else 0))), (2, .int (nI (if am_liv (aSd S) (aP S) 1 u = true then 1 else 0))), (3, .int (nI u))] [.int (nI v)] := by
        intro v hv
        cases h1 : am_liv (aSd S) (aP S) 1 u with
        | true =>
          rw [h1] at next
          refine x_istore_n [(1, _), (0, _), (2, _), (3, _)] hE d_M_winner_41 rfl (by decide) rfl ?_
          refine x_iload_n hE d_M_winner_42 2 rfl ?_
          first | refine xn_if_ne hE d_M_winner_43 (fun z => ?_) (fun z => ?_) | refine x_if_ne hE d_M_winner_43 (fun z => ?_) (fun z => ?_)
          · skip
            refine x_iconst (nI 1) hE d_M_winner_65 (by decide) ?_
            refine x_goto hE d_M_winner_66 ?_
            exact next v 1 hv (by simp [am_liv, h1])
          · exact absurd z (by decide)
        | false =>
          rw [h1] at next
          refine x_istore_n [(1, _), (0, _), (2, _), (3, _)] hE d_M_winner_41 rfl (by decide) rfl ?_
          refine x_iload_n hE d_M_winner_42 2 rfl ?_
          first | refine xn_if_ne hE d_M_winner_43 (fun z => ?_) (fun z => ?_) | refine x_if_ne hE d_M_winner_43 (fun z => ?_) (fun z => ?_)
          · exact absurd rfl z
          · skip
            refine x_aload_n hE d_M_winner_46 1 rfl ?_
            refine gf_M_35 hc d_M_winner_47 ?_
            refine x_iload_n hE d_M_winner_50 3 rfl ?_
            refine x_iald hc rfl rfl (by omega) (by decide) d_M_winner_51 hat.1 ?_
            first | refine xn_if_le hE d_M_winner_52 (fun y => ?_) (fun y => ?_) | refine x_if_le hE d_M_winner_52 (fun y => ?_) (fun y => ?_)
            · skip
              refine x_iconst (nI 0) hE d_M_winner_69 (by decide) ?_
              exact next v 0 hv (by simp [am_liv, h1, y])
            · skip
              refine x_aload_n hE d_M_winner_55 1 rfl ?_
              refine gf_M_13 hc d_M_winner_56 ?_
              refine x_iload_n hE d_M_winner_59 3 rfl ?_
              refine x_iald hc rfl rfl (by omega) (by decide) d_M_winner_60 hsd ?_
              refine x_iconst (nI 1) hE d_M_winner_61 (by decide) ?_
              first | refine xn_icmp_ne hE d_M_winner_62 (fun x => ?_) (fun x => ?_) | refine x_icmp_ne hE d_M_winner_62 (fun x => ?_) (fun x => ?_)
              · skip
                refine x_iconst (nI 0) hE d_M_winner_69 (by decide) ?_
                exact next v 0 hv (by simp [am_liv, h1, x])
              · skip
                refine x_iconst (nI 1) hE d_M_winner_65 (by decide) ?_
                refine x_goto hE d_M_winner_66 ?_
                exact next v 1 hv (by simp [am_liv, x, y])
      cases h0 : am_liv (aSd S) (aP S) 0 u with
      | true =>
        rw [h0] at half
        refine x_iload_n hE d_M_winner_6 3 rfl ?_
        refine x_aload_n hE d_M_winner_7 0 rfl ?_
        refine gf_M_89 hc d_M_winner_8 r6.1 ?_
        first | refine xn_icmp_ge hE d_M_winner_11 (fun h => ?_) (fun h => ?_) | refine x_icmp_ge hE d_M_winner_11 (fun h => ?_) (fun h => ?_)
        · exact absurd h (by omega)
        · skip
          refine x_iload_n hE d_M_winner_14 1 rfl ?_
          first | refine xn_if_ne hE d_M_winner_15 (fun z => ?_) (fun z => ?_) | refine x_if_ne hE d_M_winner_15 (fun z => ?_) (fun z => ?_)
          · skip
            refine x_iconst (nI 1) hE d_M_winner_36 (by decide) ?_
            refine x_goto hE d_M_winner_37 ?_
            exact half 1 (by simp [am_liv, h0])
          · exact absurd z (by decide)
      | false =>
        rw [h0] at half
        refine x_iload_n hE d_M_winner_6 3 rfl ?_
        refine x_aload_n hE d_M_winner_7 0 rfl ?_
        refine gf_M_89 hc d_M_winner_8 r6.1 ?_
        first | refine xn_icmp_ge hE d_M_winner_11 (fun h => ?_) (fun h => ?_) | refine x_icmp_ge hE d_M_winner_11 (fun h => ?_) (fun h => ?_)
        · exact absurd h (by omega)
        · skip
          refine x_iload_n hE d_M_winner_14 1 rfl ?_
          first | refine xn_if_ne hE d_M_winner_15 (fun z => ?_) (fun z => ?_) | refine x_if_ne hE d_M_winner_15 (fun z => ?_) (fun z => ?_)
          · exact absurd rfl z
          · skip
            refine x_aload_n hE d_M_winner_18 0 rfl ?_
            refine gf_M_35 hc d_M_winner_19 ?_
            refine x_iload_n hE d_M_winner_22 3 rfl ?_
            refine x_iald hc rfl rfl (by omega) (by decide) d_M_winner_23 hat.1 ?_
            first | refine xn_if_le hE d_M_winner_24 (fun y => ?_) (fun y => ?_) | refine x_if_le hE d_M_winner_24 (fun y => ?_) (fun y => ?_)
            · skip
              refine x_iconst (nI 0) hE d_M_winner_40 (by decide) ?_
              exact half 0 (by simp [am_liv, h0, y])
            · skip
              refine x_aload_n hE d_M_winner_27 0 rfl ?_
              refine gf_M_13 hc d_M_winner_28 ?_
              refine x_iload_n hE d_M_winner_31 3 rfl ?_
              refine x_iald hc rfl rfl (by omega) (by decide) d_M_winner_32 hsd ?_
              first | refine xn_if_ne hE d_M_winner_33 (fun x => ?_) (fun x => ?_) | refine x_if_ne hE d_M_winner_33 (fun x => ?_) (fun x => ?_)
              · skip
                refine x_iconst (nI 0) hE d_M_winner_40 (by decide) ?_
                exact half 0 (by simp [am_liv, h0, x])
              · skip
                refine x_iconst (nI 1) hE d_M_winner_36 (by decide) ?_
                refine x_goto hE d_M_winner_37 ?_
                exact half 1 (by simp [am_liv, x, y])
  exact loop (aN S) 0 (by omega)
end XM7
