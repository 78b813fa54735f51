/-! FIELD: running, replaying, reads -/
section XF3
variable {G : xk_D} {σ : xk_St} {S : am_S}
theorem k_F_entries (hR : xc_R S σ) : xk_M (xc G) 0 y_F_entries [.ref (xk_wA (xc G) 0)] σ (xk_pi (fun r τ => r = nI (aCn S) ∧ xc_R S τ)) := by
  refine xk_enter (by decide) (Nat.le_of_ble_eq_true rfl) (fun K hE hc => ?_)
  show xk_X K _ _ 0 [(0, _)] []
  refine x_aload_n hE d_F_entries_0 0 rfl ?_
  refine gf_F_19 hc d_F_entries_1 ?_
  refine gf_F_75 hc d_F_entries_4 hR.2.2.2.2.1.1 ?_
  exact x_iret hc d_F_entries_7 (⟨rfl, hR⟩)
theorem k_F_number (hR : xc_R S σ) (hS : am_okS S) {t : Int32} : xk_M (xc G) 0 y_F_number [.ref (xk_wA (xc G) 0), .int t] σ (xk_pi (fun r τ => r = am_number S t ∧ xc_R S τ)) := by
  have h200 := hS.2.2.1
  refine xk_enter (by decide) (Nat.le_of_ble_eq_true rfl) (fun K hE hc => ?_)
  show xk_X K _ _ 0 [(0, _), (1, _)] []
  refine x_iload_n hE d_F_number_0 1 rfl ?_
  refine x_if_lt hE d_F_number_1 (fun h1 => ?_) (fun h1 => ?_)
  · skip
    refine x_iconst (nI 0) hE d_F_number_21 (by decide) ?_
    exact x_iret hc d_F_number_22 (⟨by unfold am_number; rw [if_neg (fun q => q.1 h1)], hR⟩)
  · skip
    refine x_iload_n hE d_F_number_4 1 rfl ?_
    refine x_aload_n hE d_F_number_5 0 rfl ?_
    refine gf_F_72 hc d_F_number_6 hR.2.1 ?_
    refine x_icmp_ge hE d_F_number_9 (fun h2 => ?_) (fun h2 => ?_)
    · skip
      refine x_iconst (nI 0) hE d_F_number_21 (by decide) ?_
      exact x_iret hc d_F_number_22 (⟨by unfold am_number; rw [if_neg (fun q => q.2 h2)], hR⟩)
    · skip
      have ht : am_has (aPl S) t := ⟨h1, h2⟩
      obtain ⟨j, hj, rfl⟩ := am_has_of (by omega) ht
      refine x_aload_n hE d_F_number_12 0 rfl ?_
      refine gf_F_35 hc d_F_number_13 ?_
      refine x_iload_n hE d_F_number_16 1 rfl ?_
      refine x_iald hc rfl rfl (by omega) (by decide) d_F_number_17 (hR.2.2.2.1 j hj) ?_
      refine x_goto hE d_F_number_18 ?_
      exact x_iret hc d_F_number_22 (⟨by unfold am_number; rw [if_pos ht, nI_clamp (by omega)], hR⟩)
theorem k_F_points (hR : xc_R S σ) (hS : am_okS S) {u : Int32} : xk_M (xc G) 1 y_F_points [.ref (xk_wA (xc G) 0), .int u] σ (xk_pi (fun r τ => r = am_points S u ∧ xc_R S τ)) := by
  have hn8 := hS.1
  have r6 := hR.2.2.2.2.2.1
  have hp0 : 0 < 2 := by decide
  refine xk_enter (by decide) (Nat.le_of_ble_eq_true rfl) (fun K hE hc => ?_)
  show xk_X K _ _ 0 [(0, _), (1, _)] []
  refine x_aload_n hE d_F_points_0 0 rfl ?_
  refine gf_F_28 hc d_F_points_1 ?_
  refine x_iload_n hE d_F_points_4 1 rfl ?_
  refine ca_F_65 hc hp0 d_F_points_5 (k_P_has (p := 0) hp0 r6.1) (fun r τ hq => ?_)
  obtain ⟨ht, rfl⟩ := hq
  rcases ht with ⟨rfl, ht⟩ | ⟨rfl, ht⟩
  · skip
    first | refine xn_if_eq hE d_F_points_8 (fun z => ?_) (fun z => ?_) | refine x_if_eq hE d_F_points_8 (fun z => ?_) (fun z => ?_)
    · exact absurd z (by decide)
    · skip
      obtain ⟨j, hj, rfl⟩ := am_has_of (by omega) ht
      refine x_aload_n hE d_F_points_11 0 rfl ?_
      refine gf_F_28 hc d_F_points_12 ?_
      refine gf_F_91 hc (p := 0) hp0 d_F_points_15 ?_
      refine x_iload_n hE d_F_points_18 1 rfl ?_
      refine x_aald (b := 17 + 8 * 0) hc (xc_shV (p := 0) hp0) rfl (by omega) (by decide) d_F_points_19 ?_
      refine gf_F_104 hc (by omega) d_F_points_20 (r6.2 j hj).1 ?_
      refine x_goto hE d_F_points_23 ?_
      exact x_iret hc d_F_points_27 (⟨by unfold am_points; rw [if_pos ht, nI_clamp (by omega)], hR⟩)
  · skip
    first | refine xn_if_eq hE d_F_points_8 (fun z => ?_) (fun z => ?_) | refine x_if_eq hE d_F_points_8 (fun z => ?_) (fun z => ?_)
    · skip
      refine x_iconst (-1) hE d_F_points_26 (by decide) ?_
      exact x_iret hc d_F_points_27 (⟨by unfold am_points; rw [if_neg ht], hR⟩)
    · exact absurd rfl z
theorem k_F_tile (hR : xc_R S σ) (hS : am_okS S) {u : Int32} : xk_M (xc G) 1 y_F_tile [.ref (xk_wA (xc G) 0), .int u] σ (xk_pi (fun r τ => r = am_tile S u ∧ xc_R S τ)) := by
  have hn8 := hS.1
  have r6 := hR.2.2.2.2.2.1
  have hp0 : 0 < 2 := by decide
  refine xk_enter (by decide) (Nat.le_of_ble_eq_true rfl) (fun K hE hc => ?_)
  show xk_X K _ _ 0 [(0, _), (1, _)] []
  refine x_aload_n hE d_F_tile_0 0 rfl ?_
  refine gf_F_28 hc d_F_tile_1 ?_
  refine x_iload_n hE d_F_tile_4 1 rfl ?_
  refine ca_F_65 hc hp0 d_F_tile_5 (k_P_has (p := 0) hp0 r6.1) (fun r τ hq => ?_)
  obtain ⟨ht, rfl⟩ := hq
  rcases ht with ⟨rfl, ht⟩ | ⟨rfl, ht⟩
  · skip
    first | refine xn_if_eq hE d_F_tile_8 (fun z => ?_) (fun z => ?_) | refine x_if_eq hE d_F_tile_8 (fun z => ?_) (fun z => ?_)
    · exact absurd z (by decide)
    · skip
      obtain ⟨j, hj, rfl⟩ := am_has_of (by omega) ht
      have hb := (hS.2.2.2.2 j hj).1
      refine x_aload_n hE d_F_tile_11 0 rfl ?_
      refine gf_F_28 hc d_F_tile_12 ?_
      refine gf_F_91 hc (p := 0) hp0 d_F_tile_15 ?_
      refine x_iload_n hE d_F_tile_18 1 rfl ?_
      refine x_aald (b := 17 + 8 * 0) hc (xc_shV (p := 0) hp0) rfl (by omega) (by decide) d_F_tile_19 ?_
      refine ca_F_95 hc (by omega) d_F_tile_20 (k_U_isDead (by omega) (r6.2 j hj).1 (by omega)) (fun r τ hq => ?_)
      obtain ⟨rfl, rfl⟩ := hq
      by_cases hd : am_pts (aP S j) = 0
      · rw [if_pos hd]
        first | refine xn_if_eq hE d_F_tile_23 (fun z => ?_) (fun z => ?_) | refine x_if_eq hE d_F_tile_23 (fun z => ?_) (fun z => ?_)
        · exact absurd z (by decide)
        · skip
          refine x_iconst (-1) hE d_F_tile_26 (by decide) ?_
          exact x_iret hc d_F_tile_27 (⟨by unfold am_tile; rw [if_neg (by rw [nI_clamp (by omega)]; omega)], hR⟩)
      · rw [if_neg hd]
        first | refine xn_if_eq hE d_F_tile_23 (fun z => ?_) (fun z => ?_) | refine x_if_eq hE d_F_tile_23 (fun z => ?_) (fun z => ?_)
        · skip
          refine x_aload_n hE d_F_tile_28 0 rfl ?_
          refine gf_F_28 hc d_F_tile_29 ?_
          refine gf_F_91 hc (p := 0) hp0 d_F_tile_32 ?_
          refine x_iload_n hE d_F_tile_35 1 rfl ?_
          refine x_aald (b := 17 + 8 * 0) hc (xc_shV (p := 0) hp0) rfl (by omega) (by decide) d_F_tile_36 ?_
          refine gf_F_101 hc (by omega) d_F_tile_37 ((r6.2 j hj).2.1 (by omega)) ?_
          exact x_iret hc d_F_tile_40 (⟨by unfold am_tile; rw [nI_clamp (by omega), if_pos ⟨ht, by omega⟩], hR⟩)
        · exact absurd rfl z
  · skip
    first | refine xn_if_eq hE d_F_tile_8 (fun z => ?_) (fun z => ?_) | refine x_if_eq hE d_F_tile_8 (fun z => ?_) (fun z => ?_)
    · skip
      refine x_iconst (-1) hE d_F_tile_26 (by decide) ?_
      exact x_iret hc d_F_tile_27 (⟨by unfold am_tile; rw [if_neg (fun q => ht q.1)], hR⟩)
    · exact absurd rfl z
theorem k_F_order (hR : xc_R S σ) (hS : am_okS S) {u : Int32} : xk_M (xc G) 1 y_F_order [.ref (xk_wA (xc G) 0), .int u] σ (xk_pi (fun r τ => r = am_order S u ∧ xc_R S τ)) := by
  have hn8 := hS.1
  have r6 := hR.2.2.2.2.2.1
  have hp0 : 0 < 2 := by decide
  refine xk_enter (by decide) (Nat.le_of_ble_eq_true rfl) (fun K hE hc => ?_)
  show xk_X K _ _ 0 [(0, _), (1, _)] []
  refine x_aload_n hE d_F_order_0 0 rfl ?_
  refine gf_F_28 hc d_F_order_1 ?_
  refine x_iload_n hE d_F_order_4 1 rfl ?_
  refine ca_F_65 hc hp0 d_F_order_5 (k_P_has (p := 0) hp0 r6.1) (fun r τ hq => ?_)
  obtain ⟨ht, rfl⟩ := hq
  rcases ht with ⟨rfl, ht⟩ | ⟨rfl, ht⟩
  · skip
    first | refine xn_if_ne hE d_F_order_8 (fun z => ?_) (fun z => ?_) | refine x_if_ne hE d_F_order_8 (fun z => ?_) (fun z => ?_)
    · skip
      obtain ⟨j, hj, rfl⟩ := am_has_of (by omega) ht
      refine x_aload_n hE d_F_order_13 0 rfl ?_
      refine gf_F_28 hc d_F_order_14 ?_
      refine gf_F_91 hc (p := 0) hp0 d_F_order_17 ?_
      refine x_iload_n hE d_F_order_20 1 rfl ?_
      refine x_aald (b := 17 + 8 * 0) hc (xc_shV (p := 0) hp0) rfl (by omega) (by decide) d_F_order_21 ?_
      refine gf_F_107 hc (by omega) d_F_order_22 (r6.2 j hj).2.2.2.1 ?_
      refine x_iconst (nI 4) hE d_F_order_25 (by decide) ?_
      refine x_aload_n hE d_F_order_26 0 rfl ?_
      refine gf_F_28 hc d_F_order_27 ?_
      refine gf_F_91 hc (p := 0) hp0 d_F_order_30 ?_
      refine x_iload_n hE d_F_order_33 1 rfl ?_
      refine x_aald (b := 17 + 8 * 0) hc (xc_shV (p := 0) hp0) rfl (by omega) (by decide) d_F_order_34 ?_
      refine gf_F_110 hc (by omega) d_F_order_35 (r6.2 j hj).2.2.2.2.1 ?_
      first | refine xn_imul hE d_F_order_38 ?_ | refine x_imul hE d_F_order_38 ?_
      first | refine xn_iadd hE d_F_order_39 ?_ | refine x_iadd hE d_F_order_39 ?_
      exact x_iret hc d_F_order_40 (⟨by unfold am_order; rw [if_pos ht, nI_clamp (by omega)], hR⟩)
    · exact absurd z (by decide)
  · skip
    first | refine xn_if_ne hE d_F_order_8 (fun z => ?_) (fun z => ?_) | refine x_if_ne hE d_F_order_8 (fun z => ?_) (fun z => ?_)
    · exact absurd rfl z
    · skip
      refine x_iconst (-1) hE d_F_order_11 (by decide) ?_
      exact x_iret hc d_F_order_12 (⟨by unfold am_order; rw [if_neg ht], hR⟩)
theorem k_F_path (hR : xc_R S σ) (hS : am_okS S) {u i : Int32} : xk_M (xc G) 1 y_F_path [.ref (xk_wA (xc G) 0), .int u, .int i] σ (xk_pi (fun r τ => r = am_path S u i ∧ xc_R S τ)) := by
  have hn8 := hS.1
  have r6 := hR.2.2.2.2.2.1
  have hp0 : 0 < 2 := by decide
  have no : ∀ K : xk_K, xk_E K c_F_path 3 → xk_H K (xc G) c_F_path 3 RF 1 (some .int) (xk_pi (fun r τ => r = am_path S u i ∧ xc_R S τ)) → ¬ (am_has (aN S) u ∧ am_has (am_pth (aP S u.toNatClampNeg)).length i) → xk_X K (xk_vw (xc G)) σ 31 [(0, .ref (xk_wA (xc G) 0)), (1, .int u), (2, .int i)] [] := by
    intro K hE hc h
    refine x_iconst (-1) hE d_F_path_31 (by decide) ?_
    exact x_iret hc d_F_path_32 (⟨by unfold am_path; rw [if_neg h], hR⟩)
  refine xk_enter (by decide) (Nat.le_of_ble_eq_true rfl) (fun K hE hc => ?_)
  show xk_X K _ _ 0 [(0, _), (1, _), (2, _)] []
  refine x_aload_n hE d_F_path_0 0 rfl ?_
  refine gf_F_28 hc d_F_path_1 ?_
  refine x_iload_n hE d_F_path_4 1 rfl ?_
  refine ca_F_65 hc hp0 d_F_path_5 (k_P_has (p := 0) hp0 r6.1) (fun r τ hq => ?_)
  obtain ⟨ht, rfl⟩ := hq
  rcases ht with ⟨rfl, ht⟩ | ⟨rfl, ht⟩
  · skip
    first | refine xn_if_eq hE d_F_path_8 (fun z => ?_) (fun z => ?_) | refine x_if_eq hE d_F_path_8 (fun z => ?_) (fun z => ?_)
    · exact absurd z (by decide)
    · skip
      refine x_iload_n hE d_F_path_11 2 rfl ?_
      refine x_if_lt hE d_F_path_12 (fun h1 => ?_) (fun h1 => ?_)
      · exact no K hE hc (fun q => q.2.1 h1)
      · skip
        obtain ⟨j, hj, rfl⟩ := am_has_of (by omega) ht
        have hlen := (hS.2.2.2.2 j hj).2.2.2.2.2.2.1
        have ej : (nI j).toNatClampNeg = j := nI_clamp (by omega)
        refine x_iload_n hE d_F_path_15 2 rfl ?_
        refine x_aload_n hE d_F_path_16 0 rfl ?_
        refine gf_F_28 hc d_F_path_17 ?_
        refine gf_F_91 hc (p := 0) hp0 d_F_path_20 ?_
        refine x_iload_n hE d_F_path_23 1 rfl ?_
        refine x_aald (b := 17 + 8 * 0) hc (xc_shV (p := 0) hp0) rfl (by omega) (by decide) d_F_path_24 ?_
        refine ca_F_113 hc (by omega) d_F_path_25 (k_U_pathLength (by omega) (r6.2 j hj)) (fun r τ hq => ?_)
        obtain ⟨rfl, rfl⟩ := hq
        refine x_icmp_lt hE d_F_path_28 (fun h2 => ?_) (fun h2 => ?_)
        · skip
          have hi : am_has (am_pth (aP S j)).length i := ⟨h1, by rw [Int32.not_le]; exact h2⟩
          obtain ⟨ii, hii, rfl⟩ := am_has_of (by omega) hi
          refine x_aload_n hE d_F_path_33 0 rfl ?_
          refine gf_F_28 hc d_F_path_34 ?_
          refine gf_F_91 hc (p := 0) hp0 d_F_path_37 ?_
          refine x_iload_n hE d_F_path_40 1 rfl ?_
          refine x_aald (b := 17 + 8 * 0) hc (xc_shV (p := 0) hp0) rfl (by omega) (by decide) d_F_path_41 ?_
          refine x_iload_n hE d_F_path_42 2 rfl ?_
          refine ca_F_117 hc (by omega) d_F_path_43 (k_U_pathTile (by omega) (r6.2 j hj) hii) (fun r τ hq => ?_)
          obtain ⟨rfl, rfl⟩ := hq
          refine x_iret hc d_F_path_46 ⟨?_, hR⟩
          unfold am_path
          rw [ej, if_pos ⟨ht, hi⟩, nI_clamp (by omega)]
          congr 1
          simp [hii]
        · refine no K hE hc (fun q => ?_)
          rw [ej] at q
          exact q.2.2 (by rw [← Int32.not_lt]; exact h2)
  · skip
    first | refine xn_if_eq hE d_F_path_8 (fun z => ?_) (fun z => ?_) | refine x_if_eq hE d_F_path_8 (fun z => ?_) (fun z => ?_)
    · exact no K hE hc (fun q => ht q.1)
    · exact absurd rfl z
theorem xc_R_s {τ : xk_St} (h : xc_R S σ) (h2 : xs_F σ τ) (hn : aN S ≤ 8) : xc_R S τ := by
  obtain ⟨r1, r2, r3, r4, r5, r6, r7, r8⟩ := h
  refine ⟨r1.mv h2.1, ?_, ?_, fun i hi => ?_, r5.mv (fun k h3 h4 => h2.2 k (by omega) (by omega) (by omega)), r6.mv hn (fun k h => h2.2 k (by omega) (by omega) (by omega)), ?_, fun p hp u hu => ?_⟩
  · rw [h2.2 0 (by omega) (by omega) (by omega)]; exact r2
  · rw [h2.2 0 (by omega) (by omega) (by omega)]; exact r3
  · rw [h2.2 16 (by omega) (by omega) (by omega)]; exact r4 i hi
  · rw [h2.2 13 (by omega) (by omega) (by omega)]; exact r7
  · rw [h2.2 _ (by omega) (by omega) (by omega)]; exact r8 p hp u hu
theorem k_F_steps (hR : xc_R S σ) (hS : am_okS S) {a b : Int32} : xk_M (xc G) 2 y_F_steps [.ref (xk_wA (xc G) 0), .int a, .int b] σ (xk_pi (fun r τ => r = am_steps S a b ∧ xc_R S τ)) := by
  have r1 := hR.1
  have no : ∀ K : xk_K, xk_E K c_F_steps 4 → xk_H K (xc G) c_F_steps 4 RF 2 (some .int) (xk_pi (fun r τ => r = am_steps S a b ∧ xc_R S τ)) → (¬ am_has 64 a ∨ ¬ am_has 64 b ∨ aW S a.toNatClampNeg = true ∨ aW S b.toNatClampNeg = true) → xk_X K (xk_vw (xc G)) σ 36 [(0, .ref (xk_wA (xc G) 0)), (1, .int a), (2, .int b)] [] := by
    intro K hE hc h
    refine x_iconst (-1) hE d_F_steps_36 (by decide) ?_
    exact x_iret hc d_F_steps_37 (⟨by unfold am_steps; rw [if_pos h], hR⟩)
  refine xk_enter (by decide) (Nat.le_of_ble_eq_true rfl) (fun K hE hc => ?_)
  show xk_X K _ _ 0 [(0, _), (1, _), (2, _)] []
  refine x_iload_n hE d_F_steps_0 1 rfl ?_
  refine ca_F_43 hc d_F_steps_1 (k_F_isTile) (fun r τ hq => ?_)
  obtain ⟨ht, rfl⟩ := hq
  rcases ht with ⟨rfl, ht⟩ | ⟨rfl, ht⟩
  · skip
    first | refine xn_if_eq hE d_F_steps_4 (fun z => ?_) (fun z => ?_) | refine x_if_eq hE d_F_steps_4 (fun z => ?_) (fun z => ?_)
    · exact absurd z (by decide)
    · skip
      refine x_iload_n hE d_F_steps_7 2 rfl ?_
      refine ca_F_43 hc d_F_steps_8 (k_F_isTile) (fun r τ hq => ?_)
      obtain ⟨hu, rfl⟩ := hq
      rcases hu with ⟨rfl, hu⟩ | ⟨rfl, hu⟩
      · skip
        first | refine xn_if_eq hE d_F_steps_11 (fun z => ?_) (fun z => ?_) | refine x_if_eq hE d_F_steps_11 (fun z => ?_) (fun z => ?_)
        · exact absurd z (by decide)
        · skip
          obtain ⟨ja, hja, rfl⟩ := am_has_of (by decide) ht
          obtain ⟨jb, hjb, rfl⟩ := am_has_of (by decide) hu
          have ea : (nI ja).toNatClampNeg = ja := nI_clamp (by omega)
          have eb : (nI jb).toNatClampNeg = jb := nI_clamp (by omega)
          refine x_aload_n hE d_F_steps_14 0 rfl ?_
          refine gf_F_10 hc d_F_steps_15 ?_
          refine x_iload_n hE d_F_steps_18 1 rfl ?_
          refine ca_F_54 hc d_F_steps_19 (k_G_isWall r1 hja) (fun r τ hq => ?_)
          obtain ⟨rfl, rfl⟩ := hq
          cases hwa : aW S ja with
          | true =>
            first | refine xn_if_ne hE d_F_steps_22 (fun z => ?_) (fun z => ?_) | refine x_if_ne hE d_F_steps_22 (fun z => ?_) (fun z => ?_)
            · exact no K hE hc (Or.inr (Or.inr (Or.inl (by rw [ea]; exact hwa))))
            · exact absurd z (by decide)
          | false =>
            first | refine xn_if_ne hE d_F_steps_22 (fun z => ?_) (fun z => ?_) | refine x_if_ne hE d_F_steps_22 (fun z => ?_) (fun z => ?_)
            · exact absurd rfl z
            · skip
              refine x_aload_n hE d_F_steps_25 0 rfl ?_
              refine gf_F_10 hc d_F_steps_26 ?_
              refine x_iload_n hE d_F_steps_29 2 rfl ?_
              refine ca_F_54 hc d_F_steps_30 (k_G_isWall r1 hjb) (fun r τ hq => ?_)
              obtain ⟨rfl, rfl⟩ := hq
              cases hwb : aW S jb with
              | true =>
                first | refine xn_if_eq hE d_F_steps_33 (fun z => ?_) (fun z => ?_) | refine x_if_eq hE d_F_steps_33 (fun z => ?_) (fun z => ?_)
                · exact absurd z (by decide)
                · exact no K hE hc (Or.inr (Or.inr (Or.inr (by rw [eb]; exact hwb))))
              | false =>
                first | refine xn_if_eq hE d_F_steps_33 (fun z => ?_) (fun z => ?_) | refine x_if_eq hE d_F_steps_33 (fun z => ?_) (fun z => ?_)
                · skip
                  refine x_aload_n hE d_F_steps_38 0 rfl ?_
                  refine gf_F_10 hc d_F_steps_39 ?_
                  refine x_iload_n hE d_F_steps_42 1 rfl ?_
                  refine x_iload_n hE d_F_steps_43 2 rfl ?_
                  refine x_lconst 0 hE d_F_steps_44 (by decide) ?_
                  have h00 : ∀ t, t < 64 → xb_t 0 t = (fun _ => false : Nat → Bool) t := fun t _ => xb_zero t
                  refine ca_F_121 hc d_F_steps_45 (k_G_search r1 h00 hja hjb) (fun r τ hq => ?_)
                  obtain ⟨rfl, q1, q2⟩ := hq
                  have e : am_steps S (nI ja) (nI jb) = xc_dp (am_end (am_free (aW S) (fun _ => false) jb) ja jb) jb := by
                    unfold am_steps
                    rw [ea, eb, hwa, hwb, if_neg (fun q => by
                      rcases q with q | q | q | q
                      · exact q ht
                      · exact q hu
                      · cases q
                      · cases q)]
                  refine x_istore_n [(3, _), (0, _), (1, _), (2, _)] hE d_F_steps_48 rfl (by decide) rfl ?_
                  refine x_iload_n hE d_F_steps_49 0 rfl ?_
                  refine x_iconst (-1) hE d_F_steps_50 (by decide) ?_
                  refine x_icmp_ne hE d_F_steps_51 (fun g => ?_) (fun g => ?_)
                  · skip
                    refine x_iload_n hE d_F_steps_58 0 rfl ?_
                    exact x_iret hc d_F_steps_59 (⟨e.symm, xc_R_s hR q2 hS.1⟩)
                  · skip
                    refine x_iconst (-1) hE d_F_steps_54 (by decide) ?_
                    refine x_goto hE d_F_steps_55 ?_
                    exact x_iret hc d_F_steps_59 (⟨by rw [e, g], xc_R_s hR q2 hS.1⟩)
                · exact absurd rfl z
      · skip
        first | refine xn_if_eq hE d_F_steps_11 (fun z => ?_) (fun z => ?_) | refine x_if_eq hE d_F_steps_11 (fun z => ?_) (fun z => ?_)
        · exact no K hE hc (Or.inr (Or.inl hu))
        · exact absurd rfl z
  · skip
    first | refine xn_if_eq hE d_F_steps_4 (fun z => ?_) (fun z => ?_) | refine x_if_eq hE d_F_steps_4 (fun z => ?_) (fun z => ?_)
    · exact no K hE hc (Or.inl ht)
    · exact absurd rfl z
theorem k_F_winner (hR : xc_R S σ) (hS : am_okS S) : xk_M (xc G) 2 y_F_winner [.ref (xk_wA (xc G) 0)] σ (xk_pi (fun r τ => r = am_winner S ∧ xc_R S τ)) := by
  have r6 := hR.2.2.2.2.2.1
  have r8 := hR.2.2.2.2.2.2.2
  have hp0 : 0 < 2 := by decide
  have hsd : ∀ u, u < aN S → σ.1 (17 + 8 * 0 + u) 0 = nI (aSd S u) ∧ aSd S u < 2 := fun u hu => ⟨(r8 0 hp0 u hu).1, (hS.2.1 u hu).1⟩
  refine xk_enter (by decide) (Nat.le_of_ble_eq_true rfl) (fun K hE hc => ?_)
  show xk_X K _ _ 0 [(0, _)] []
  refine x_aload_n hE d_F_winner_0 0 rfl ?_
  refine gf_F_28 hc d_F_winner_1 ?_
  refine x_iconst (nI 0) hE d_F_winner_4 (by decide) ?_
  refine ca_F_125 hc hp0 d_F_winner_5 (k_P_hasLiving (p := 0) hp0 hS.1 r6 hS.2.2.2.2 (s := 0) hp0 hsd) (fun r τ hq => ?_)
  obtain ⟨rfl, rfl⟩ := hq
  refine x_istore_n [(1, _), (0, _)] hE d_F_winner_8 rfl (by decide) rfl ?_
  refine x_aload_n hE d_F_winner_9 1 rfl ?_
  refine gf_F_28 hc d_F_winner_10 ?_
  refine x_iconst (nI 1) hE d_F_winner_13 (by decide) ?_
  refine ca_F_125 hc hp0 d_F_winner_14 (k_P_hasLiving (p := 0) hp0 hS.1 r6 hS.2.2.2.2 (s := 1) (by decide) hsd) (fun r τ hq => ?_)
  obtain ⟨rfl, rfl⟩ := hq
  refine x_istore_n [(2, _), (1, _), (0, _)] hE d_F_winner_17 rfl (by decide) rfl ?_
  refine x_iload_n hE d_F_winner_18 1 rfl ?_
  have e : am_winner S = (if am_liv (aSd S) (aP S) 0 (aN S) = true ∧ am_liv (aSd S) (aP S) 1 (aN S) = true then nI 2 else if am_liv (aSd S) (aP S) 0 (aN S) = true then nI 0 else if am_liv (aSd S) (aP S) 1 (aN S) = true then nI 1 else nI 3) := rfl
  cases h0 : am_liv (aSd S) (aP S) 0 (aN S) with
  | true =>
    first | refine xn_if_eq hE d_F_winner_19 (fun z => ?_) (fun z => ?_) | refine x_if_eq hE d_F_winner_19 (fun z => ?_) (fun z => ?_)
    · exact absurd z (by decide)
    · skip
      show xk_X K _ _ 22 [(2, _), (1, .int (nI 1)), (0, _)] []
      refine x_iload_n hE d_F_winner_22 0 rfl ?_
      cases h1 : am_liv (aSd S) (aP S) 1 (aN S) with
      | true =>
        first | refine xn_if_eq hE d_F_winner_23 (fun z => ?_) (fun z => ?_) | refine x_if_eq hE d_F_winner_23 (fun z => ?_) (fun z => ?_)
        · exact absurd z (by decide)
        · skip
          refine x_iconst (nI 2) hE d_F_winner_26 (by decide) ?_
          exact x_iret hc d_F_winner_27 (⟨by rw [e, h0, h1]; rfl, hR⟩)
      | false =>
        first | refine xn_if_eq hE d_F_winner_23 (fun z => ?_) (fun z => ?_) | refine x_if_eq hE d_F_winner_23 (fun z => ?_) (fun z => ?_)
        · skip
          refine x_iload_n hE d_F_winner_28 1 rfl ?_
          first | refine xn_if_eq hE d_F_winner_29 (fun y => ?_) (fun y => ?_) | refine x_if_eq hE d_F_winner_29 (fun y => ?_) (fun y => ?_)
          · exact absurd y (by decide)
          · skip
            refine x_iconst (nI 0) hE d_F_winner_32 (by decide) ?_
            exact x_iret hc d_F_winner_33 (⟨by rw [e, h0, h1]; rfl, hR⟩)
        · exact absurd rfl z
  | false =>
    first | refine xn_if_eq hE d_F_winner_19 (fun z => ?_) (fun z => ?_) | refine x_if_eq hE d_F_winner_19 (fun z => ?_) (fun z => ?_)
    · skip
      show xk_X K _ _ 28 [(2, _), (1, .int (nI 0)), (0, _)] []
      refine x_iload_n hE d_F_winner_28 1 rfl ?_
      first | refine xn_if_eq hE d_F_winner_29 (fun y => ?_) (fun y => ?_) | refine x_if_eq hE d_F_winner_29 (fun y => ?_) (fun y => ?_)
      · skip
        refine x_iload_n hE d_F_winner_34 0 rfl ?_
        cases h1 : am_liv (aSd S) (aP S) 1 (aN S) with
        | true =>
          first | refine xn_if_eq hE d_F_winner_35 (fun x => ?_) (fun x => ?_) | refine x_if_eq hE d_F_winner_35 (fun x => ?_) (fun x => ?_)
          · exact absurd x (by decide)
          · skip
            refine x_iconst (nI 1) hE d_F_winner_38 (by decide) ?_
            refine x_goto hE d_F_winner_39 ?_
            exact x_iret hc d_F_winner_43 (⟨by rw [e, h0, h1]; rfl, hR⟩)
        | false =>
          first | refine xn_if_eq hE d_F_winner_35 (fun x => ?_) (fun x => ?_) | refine x_if_eq hE d_F_winner_35 (fun x => ?_) (fun x => ?_)
          · skip
            refine x_iconst (nI 3) hE d_F_winner_42 (by decide) ?_
            exact x_iret hc d_F_winner_43 (⟨by rw [e, h0, h1]; rfl, hR⟩)
          · exact absurd rfl x
      · exact absurd rfl y
    · exact absurd rfl z
theorem k_F_run (hR : xc_R S σ) (hS : am_okS S) {m : Int32} : xk_M (xc G) 6 y_F_run [.ref (xk_wA (xc G) 0), .int m] σ (xk_pi (fun r τ => r = (am_run S m).1 ∧ xc_R (am_run S m).2 τ)) := by
  have h200 := hS.2.2.1
  have hp0 : 0 < 2 := by decide
  have no : ∀ K : xk_K, xk_E K c_F_run 3 → xk_H K (xc G) c_F_run 3 RF 6 (some .int) (xk_pi (fun r τ => r = (am_run S m).1 ∧ xc_R (am_run S m).2 τ)) → (m < nI 1 ∨ nI 20 < m) → xk_X K (xk_vw (xc G)) σ 11 [(0, .ref (xk_wA (xc G) 0)), (1, .int m)] [] := by
    intro K hE hc h
    refine x_iconst (-1) hE d_F_run_11 (by decide) ?_
    have e : am_run S m = (-1, S) := by unfold am_run; rw [if_pos h]
    exact x_iret hc d_F_run_12 (by rw [e]; exact ⟨rfl, hR⟩)
  refine xk_enter (by decide) (Nat.le_of_ble_eq_true rfl) (fun K hE hc => ?_)
  show xk_X K _ _ 0 [(0, _), (1, _)] []
  refine x_iload_n hE d_F_run_0 1 rfl ?_
  refine x_iconst (nI 1) hE d_F_run_1 (by decide) ?_
  refine x_icmp_lt hE d_F_run_2 (fun h1 => ?_) (fun h1 => ?_)
  · exact no K hE hc (Or.inl h1)
  · skip
    refine x_iload_n hE d_F_run_5 1 rfl ?_
    refine x_bipush (nI 20) hE d_F_run_6 (by decide) ?_
    refine x_icmp_le hE d_F_run_8 (fun h2 => ?_) (fun h2 => ?_)
    · skip
      have hneg : ¬ (m < nI 1 ∨ nI 20 < m) := fun q => by
        rcases q with q | q
        · exact h1 q
        · exact (Int32.not_le.mpr q) h2
      obtain ⟨mm, hm1, rfl⟩ : ∃ mm, mm ≤ 20 ∧ m = nI mm := by
        have hpos : ¬ m < 0 := fun q => h1 (by
          rw [Int32.lt_iff_toInt_lt] at q ⊢
          rw [nI_toInt (by decide)]
          rw [Int32.toInt_zero] at q
          omega)
        exact nI_of2 (M := nI 20) (by decide) hpos h2
      have hm0 : 1 ≤ mm := by
        rcases Nat.eq_zero_or_pos mm with e | e
        · subst e; exact absurd (by decide) h1
        · exact e
      have em : (nI mm).toNatClampNeg = mm := nI_clamp (by omega)
      refine x_aload_n hE d_F_run_13 0 rfl ?_
      refine gf_F_39 hc d_F_run_14 hR.2.2.1 ?_
      cases hbg : aBg S with
      | false =>
        first | refine xn_if_ne hE d_F_run_17 (fun z => ?_) (fun z => ?_) | refine x_if_ne hE d_F_run_17 (fun z => ?_) (fun z => ?_)
        · exact absurd rfl z
        · skip
          refine x_bipush (-3) hE d_F_run_20 (by decide) ?_
          have e : am_run S (nI mm) = (-3, S) := by unfold am_run; rw [if_neg hneg, if_pos hbg]
          exact x_iret hc d_F_run_22 (by rw [e]; exact ⟨rfl, hR⟩)
      | true =>
        first | refine xn_if_ne hE d_F_run_17 (fun z => ?_) (fun z => ?_) | refine x_if_ne hE d_F_run_17 (fun z => ?_) (fun z => ?_)
        · skip
          refine x_iload_n hE d_F_run_23 1 rfl ?_
          refine x_sipush (nI 200) hE d_F_run_24 (by decide) ?_
          refine x_aload_n hE d_F_run_27 0 rfl ?_
          refine gf_F_72 hc d_F_run_28 hR.2.1 ?_
          first | refine xn_isub hE d_F_run_31 ?_ | refine x_isub hE d_F_run_31 ?_
          first | refine xn_icmp_le hE d_F_run_32 (fun h3 => ?_) (fun h3 => ?_) | refine x_icmp_le hE d_F_run_32 (fun h3 => ?_) (fun h3 => ?_)
          · skip
            have hroom : aPl S + mm ≤ 200 := by omega
            have e : am_run S (nI mm) = (nI (aPl S + mm), am_runs mm S) := by
              unfold am_run
              rw [if_neg hneg, if_neg (by rw [hbg]; simp), em, if_neg (by omega)]
            refine x_iconst (nI 0) hE d_F_run_38 (by decide) ?_
            refine x_istore_n [(2, _), (0, _), (1, _)] hE d_F_run_39 rfl (by decide) rfl ?_
            refine x_lv [1, 2, 0] (lv' := [(0, _), (1, _), (2, _)]) rfl ?_
            have loop : ∀ (q i : Nat) (S2 : am_S) (τ : xk_St), i + q = mm → xc_R S2 τ → am_okS S2 → aPl S2 + q ≤ 200 → am_runs q S2 = am_runs mm S → xk_X K (xk_vw (xc G)) τ 40 [(0, .ref (xk_wA (xc G) 0)), (1, .int (nI mm)), (2, .int (nI i))] [] := by
              intro q
              induction q with
              | zero =>
                intro i S2 τ hi hR2 hS2 hr he
                refine x_iload_n hE d_F_run_40 2 rfl ?_
                refine x_iload_n hE d_F_run_41 1 rfl ?_
                first | refine xn_icmp_ge hE d_F_run_42 (fun h => ?_) (fun h => ?_) | refine x_icmp_ge hE d_F_run_42 (fun h => ?_) (fun h => ?_)
                · skip
                  refine x_aload_n hE d_F_run_85 0 rfl ?_
                  refine gf_F_72 hc d_F_run_86 hR2.2.1 ?_
                  have he : S2 = am_runs mm S := he
                  refine x_iret hc d_F_run_89 ?_
                  rw [e, ← am_runs_pl, ← he]
                  exact ⟨rfl, hR2⟩
                · exact absurd h (by omega)
              | succ q ih =>
                intro i S2 τ hi hR2 hS2 hr he
                have hn8 := hS2.1
                obtain ⟨r1, r2, r3, r4, r5, r6, r7, r8⟩ := hR2
                refine x_iload_n hE d_F_run_40 2 rfl ?_
                refine x_iload_n hE d_F_run_41 1 rfl ?_
                first | refine xn_icmp_ge hE d_F_run_42 (fun h => ?_) (fun h => ?_) | refine x_icmp_ge hE d_F_run_42 (fun h => ?_) (fun h => ?_)
                · exact absurd h (by omega)
                · skip
                  refine x_aload_n hE d_F_run_45 0 rfl ?_
                  refine gf_F_35 hc d_F_run_46 ?_
                  refine x_aload_n hE d_F_run_49 0 rfl ?_
                  refine gf_F_72 hc d_F_run_50 r2 ?_
                  refine x_aload_n hE d_F_run_53 0 rfl ?_
                  refine gf_F_28 hc d_F_run_54 ?_
                  refine x_aload_n hE d_F_run_57 0 rfl ?_
                  refine gf_F_72 hc d_F_run_58 r2 ?_
                  refine x_aload_n hE d_F_run_61 0 rfl ?_
                  refine gf_F_19 hc d_F_run_62 ?_
                  refine ca_F_84 hc hp0 d_F_run_65 (k_P_playTick (p := 0) hp0 hS2.1 r6 hS2.2.2.2.2 r1 (show aPl S2 < 2 ^ 31 by omega) r5 hS2.2.2.2.1) (fun r τ hq => ?_)
                  obtain ⟨rfl, p1, p2⟩ := hq
                  have p3 : τ.1 0 5 = nI (aPl S2) := by rw [p2.2.1 0 (by omega)]; exact r2
                  refine x_iast hc rfl rfl (by omega) (by decide) d_F_run_68 ?_
                  refine x_aload_n hE d_F_run_69 0 rfl ?_
                  refine x_dup hE d_F_run_70 rfl ?_
                  refine gf_F_72 hc d_F_run_71 (show _ = nI (aPl S2) by rw [xk_up_o (by omega)]; exact p3) ?_
                  refine x_iconst (nI 1) hE d_F_run_74 (by decide) ?_
                  first | refine xn_iadd hE d_F_run_75 ?_ | refine x_iadd hE d_F_run_75 ?_
                  refine pf_F_72 hc d_F_run_76 ?_
                  refine x_iinc 2 (nI (_ + 1)) [(2, _), (0, _), (1, _)] hE d_F_run_79 rfl (nI_inc _) (by decide) rfl ?_
                  refine x_goto hE d_F_run_82 ?_
                  refine x_lv [1, 2, 0] (lv' := [(0, _), (1, _), (2, _)]) rfl ?_
                  refine ih (i + 1) (am_one S2) _ (by omega) ?_ (am_ok_one hS2 (by omega)) (by show aPl S2 + 1 + q ≤ 200; omega) he
                  refine ⟨r1.mv p2.1, ?_, ?_, fun k hk => ?_, r5.mv (fun k h1 h2 => ?_), p1.mv hn8 (fun k h => ?_), ?_, fun p hp u hu => ?_⟩
                  · rw [xk_up_s, if_pos rfl]; rfl
                  · rw [xk_up_s, if_neg (by decide), xk_up_o (by omega), p2.2.1 0 (by omega)]; exact r3
                  · have hk : k < aPl S2 + 1 := hk
                    rw [xk_up_o (by omega), xk_up_s]
                    show _ = am_set (aNm S2) (aPl S2) _ k
                    by_cases e1 : k = aPl S2
                    · subst e1; rw [if_pos rfl, am_set_s]
                    · rw [if_neg e1, am_set_n e1, p2.2.1 16 (by omega)]; exact r4 k (by omega)
                  · rw [xk_up_o (by omega), xk_up_o (by omega), p2.2.1 k (by omega)]
                  · rw [xk_up_o (by omega), xk_up_o (by omega)]
                  · rw [xk_up_o (by omega), xk_up_o (by omega), p2.2.1 13 (by omega)]; exact r7
                  · have hu : u < aN S2 := hu
                    rw [xk_up_o (by omega), xk_up_o (by omega)]
                    have hpc : p = 0 ∨ p = 1 := by omega
                    rcases hpc with rfl | rfl
                    · rw [(p2.2.2 _ (by omega) (by omega)).1, (p2.2.2 _ (by omega) (by omega)).2]; exact r8 0 (by omega) u hu
                    · rw [p2.2.1 _ (by omega)]; exact r8 1 (by omega) u hu
            exact loop mm 0 S σ (by omega) hR hS hroom rfl
          · skip
            refine x_bipush (-2) hE d_F_run_35 (by decide) ?_
            have e : am_run S (nI mm) = (-2, S) := by
              unfold am_run
              rw [if_neg hneg, if_neg (by rw [hbg]; simp), em, if_pos (by omega)]
            exact x_iret hc d_F_run_37 (by rw [e]; exact ⟨rfl, hR⟩)
        · exact absurd z (by decide)
    · exact no K hE hc (Or.inr (by rw [← Int32.not_le]; exact h2))
theorem xc_R_1 {τ : xk_St} (h : xc_R S σ) (h2 : xc_fr 1 σ τ) (hn : aN S ≤ 8) : xc_R S τ := by
  obtain ⟨r1, r2, r3, r4, r5, r6, r7, r8⟩ := h
  refine ⟨r1.mv h2.1, ?_, ?_, fun i hi => ?_, r5.mv (fun k h3 h4 => h2.2.1 k (by omega)), r6.mv hn (fun k h => h2.2.1 k (by omega)), ?_, fun p hp u hu => ?_⟩
  · rw [h2.2.1 0 (by omega)]; exact r2
  · rw [h2.2.1 0 (by omega)]; exact r3
  · rw [h2.2.1 16 (by omega)]; exact r4 i hi
  · rw [h2.2.1 13 (by omega)]; exact r7
  · have hpc : p = 0 ∨ p = 1 := by omega
    rcases hpc with rfl | rfl
    · rw [h2.2.1 _ (by omega)]; exact r8 0 (by omega) u hu
    · rw [(h2.2.2 _ (by omega) (by omega)).1, (h2.2.2 _ (by omega) (by omega)).2]; exact r8 1 (by omega) u hu
theorem am_okP_0 (hS : am_okS S) : am_okP (aN S) (fun u => (20, aSt S u, 0, 0, 0, [])) := fun u hu => ⟨Nat.le_refl 20, (hS.2.1 u hu).2, Nat.zero_le _, (by decide : 0 < 64), fun e => absurd e (show ¬ (0 : Nat) = 2 by decide), (by decide : 0 < 3), Nat.zero_le _, fun t ht => absurd ht List.not_mem_nil, fun e => absurd e (show ¬ (20 : Nat) = 0 by decide)⟩
theorem k_F_replay (hR : xc_R S σ) (hS : am_okS S) : xk_M (xc G) 6 y_F_replay [.ref (xk_wA (xc G) 0)] σ (xk_pi (fun r τ => r = am_replay S ∧ xc_R S τ)) := by
  have h200 := hS.2.2.1
  have hn8 := hS.1
  have hp1 : 1 < 2 := by decide
  refine xk_enter (by decide) (Nat.le_of_ble_eq_true rfl) (fun K hE hc => ?_)
  show xk_X K _ _ 0 [(0, _)] []
  refine x_aload_n hE d_F_replay_0 0 rfl ?_
  refine gf_F_32 hc d_F_replay_1 ?_
  refine ca_F_88 hc hp1 d_F_replay_4 (k_P_restart (p := 1) hp1 hS.1 hR.2.2.2.2.2.2.1 (fun u hu => (hR.2.2.2.2.2.2.2 1 hp1 u hu).2)) (fun τ hq => ?_)
  obtain ⟨s1, s2⟩ := hq
  refine x_iconst (nI 0) hE d_F_replay_7 (by decide) ?_
  refine x_istore_n [(1, _), (0, _)] hE d_F_replay_8 rfl (by decide) rfl ?_
  refine x_lv [1, 0] (lv' := [(0, _), (1, _)]) rfl ?_
  have loop : ∀ (f t : Nat) (P : am_P) (τ : xk_St), t + f = aPl S → xc_pl 1 (aN S) P τ → am_okP (aN S) P → xc_fr 1 σ τ → am_rp S f t P = am_replay S → xk_X K (xk_vw (xc G)) τ 9 [(0, .ref (xk_wA (xc G) 0)), (1, .int (nI t))] [] := by
    intro f
    induction f with
    | zero =>
      intro t P τ ht hpl hok hf he
      have hR2 := xc_R_1 hR hf hn8
      refine x_iload_n hE d_F_replay_9 1 rfl ?_
      refine x_aload_n hE d_F_replay_10 0 rfl ?_
      refine gf_F_72 hc d_F_replay_11 hR2.2.1 ?_
      first | refine xn_icmp_ge hE d_F_replay_14 (fun h => ?_) (fun h => ?_) | refine x_icmp_ge hE d_F_replay_14 (fun h => ?_) (fun h => ?_)
      · skip
        refine x_iconst (-1) hE d_F_replay_46 (by decide) ?_
        exact x_iret hc d_F_replay_47 (⟨by rw [← he]; rfl, hR2⟩)
      · exact absurd h (by omega)
    | succ f ih =>
      intro t P τ ht hpl hok hf he
      have hR2 := xc_R_1 hR hf hn8
      refine x_iload_n hE d_F_replay_9 1 rfl ?_
      refine x_aload_n hE d_F_replay_10 0 rfl ?_
      refine gf_F_72 hc d_F_replay_11 hR2.2.1 ?_
      first | refine xn_icmp_ge hE d_F_replay_14 (fun h => ?_) (fun h => ?_) | refine x_icmp_ge hE d_F_replay_14 (fun h => ?_) (fun h => ?_)
      · exact absurd h (by omega)
      · skip
        refine x_aload_n hE d_F_replay_17 0 rfl ?_
        refine gf_F_32 hc d_F_replay_18 ?_
        refine x_iload_n hE d_F_replay_21 1 rfl ?_
        refine x_aload_n hE d_F_replay_22 0 rfl ?_
        refine gf_F_19 hc d_F_replay_23 ?_
        refine ca_F_84 hc hp1 d_F_replay_26 (k_P_playTick (p := 1) hp1 hn8 hpl hok hR2.1 (show t < 2 ^ 31 by omega) hR2.2.2.2.2.1 hS.2.2.2.1) (fun r τ hq => ?_)
        obtain ⟨rfl, p1, p2⟩ := hq
        have hR3 := xc_R_1 hR (hf.tr p2) hn8
        refine x_aload_n hE d_F_replay_29 0 rfl ?_
        refine gf_F_35 hc d_F_replay_30 ?_
        refine x_iload_n hE d_F_replay_33 1 rfl ?_
        refine x_iald hc rfl rfl (by omega) (by decide) d_F_replay_34 (hR3.2.2.2.1 t (by omega)) ?_
        rw [am_rp] at he
        refine x_icmp_eq hE d_F_replay_35 (fun g => ?_) (fun g => ?_)
        · skip
          rw [if_pos g] at he
          refine x_iinc 1 (nI (_ + 1)) [(1, _), (0, _)] hE d_F_replay_40 rfl (nI_inc _) (by decide) rfl ?_
          refine x_goto hE d_F_replay_43 ?_
          refine x_lv [1, 0] (lv' := [(0, _), (1, _)]) rfl ?_
          exact ih (t + 1) _ _ (by omega) p1 (am_okP_tick hok hS.2.2.2.1) (hf.tr p2) he
        · skip
          rw [if_neg g] at he
          refine x_iload_n hE d_F_replay_38 1 rfl ?_
          exact x_iret hc d_F_replay_39 (⟨he, hR3⟩)
  exact loop (aPl S) 0 _ _ (by omega) s1 (am_okP_0 hS) s2 rfl
end XF3
