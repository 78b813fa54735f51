/-! THE REFERENCE: its calls -/
def xm_R (S : am_S) (σ : xk_St) : Prop := xm_W (aW S) σ ∧ σ.1 0 4 = (if aBg S = true then nI 1 else nI 0) ∧ σ.1 0 5 = nI (aPl S) ∧ (∀ i, i < aPl S → σ.1 4 i = aNm S i) ∧ xm_L (aCn S) (aL S) σ ∧ xm_pl (aN S) (aP S) σ ∧ (∀ u, u < aN S → σ.1 2 u = nI (aSd S u) ∧ σ.1 3 u = nI (aSt S u)) ∧ (aBg S = false → ∀ u, aN S ≤ u → u < 8 → σ.1 11 u = nI 0 ∧ σ.1 12 u = nI 0 ∧ σ.1 13 u = nI 0 ∧ σ.1 15 u = nI 0)
section XM5
variable {G : xk_D} {σ : xk_St} {S : am_S}
theorem k_M_entries (hR : xm_R S σ) : xk_M (xm G) 0 y_M_entries [.ref (xk_wA (xm G) 0)] σ (xk_pi (fun r τ => r = nI (aCn S) ∧ xm_R S τ)) := by
  refine xk_enter (by decide) (Nat.le_of_ble_eq_true rfl) (fun K hE hc => ?_)
  show xk_X K _ _ 0 [(0, _)] []
  refine x_aload_n hE d_M_entries_0 0 rfl ?_
  refine gf_M_110 hc d_M_entries_1 hR.2.2.2.2.1.1 ?_
  exact x_iret hc d_M_entries_4 (⟨rfl, hR⟩)
theorem k_M_number (hR : xm_R S σ) (hS : am_okS S) {t : Int32} : xk_M (xm G) 0 y_M_number [.ref (xk_wA (xm G) 0), .int t] σ (xk_pi (fun r τ => r = am_number S t ∧ xm_R S τ)) := by
  have h200 := hS.2.2.1
  refine xk_enter (by decide) (Nat.le_of_ble_eq_true rfl) (fun K hE hc => ?_)
  show xk_X K _ _ 0 [(0, _), (1, _)] []
  refine x_iload_n hE d_M_number_0 1 rfl ?_
  refine x_if_lt hE d_M_number_1 (fun h1 => ?_) (fun h1 => ?_)
  · skip
    refine x_iconst (nI 0) hE d_M_number_21 (by decide) ?_
    exact x_iret hc d_M_number_22 (⟨by unfold am_number; rw [if_neg (fun q => q.1 h1)], hR⟩)
  · skip
    refine x_iload_n hE d_M_number_4 1 rfl ?_
    refine x_aload_n hE d_M_number_5 0 rfl ?_
    refine gf_M_107 hc d_M_number_6 hR.2.2.1 ?_
    refine x_icmp_ge hE d_M_number_9 (fun h2 => ?_) (fun h2 => ?_)
    · skip
      refine x_iconst (nI 0) hE d_M_number_21 (by decide) ?_
      exact x_iret hc d_M_number_22 (⟨by unfold am_number; rw [if_neg (fun q => q.2 h2)], hR⟩)
    · skip
      have ht : am_has (aPl S) t := ⟨h1, h2⟩
      obtain ⟨j, hj, rfl⟩ := am_has_of (by omega) ht
      refine x_aload_n hE d_M_number_12 0 rfl ?_
      refine gf_M_20 hc d_M_number_13 ?_
      refine x_iload_n hE d_M_number_16 1 rfl ?_
      refine x_iald hc rfl rfl (by omega) (by decide) d_M_number_17 (hR.2.2.2.1 j hj) ?_
      refine x_goto hE d_M_number_18 ?_
      exact x_iret hc d_M_number_22 (⟨by unfold am_number; rw [if_pos ht, nI_clamp (by omega)], hR⟩)
theorem k_M_points (hR : xm_R S σ) (hS : am_okS S) {u : Int32} : xk_M (xm G) 1 y_M_points [.ref (xk_wA (xm G) 0), .int u] σ (xk_pi (fun r τ => r = am_points S u ∧ xm_R S τ)) := by
  have hn8 := hS.1
  have r6 := hR.2.2.2.2.2.1
  refine xk_enter (by decide) (Nat.le_of_ble_eq_true rfl) (fun K hE hc => ?_)
  show xk_X K _ _ 0 [(0, _), (1, _)] []
  refine x_aload_n hE d_M_points_0 0 rfl ?_
  refine x_iload_n hE d_M_points_1 1 rfl ?_
  refine ca_M_104 hc d_M_points_2 (k_M_isUnit r6.1) (fun r τ hq => ?_)
  obtain ⟨ht, rfl⟩ := hq
  rcases ht with ⟨rfl, ht⟩ | ⟨rfl, ht⟩
  · skip
    first | refine xn_if_eq hE d_M_points_5 (fun z => ?_) (fun z => ?_) | refine x_if_eq hE d_M_points_5 (fun z => ?_) (fun z => ?_)
    · exact absurd z (by decide)
    · skip
      obtain ⟨j, hj, rfl⟩ := am_has_of (by omega) ht
      refine x_aload_n hE d_M_points_8 0 rfl ?_
      refine gf_M_35 hc d_M_points_9 ?_
      refine x_iload_n hE d_M_points_12 1 rfl ?_
      refine x_iald hc rfl rfl (by omega) (by decide) d_M_points_13 (r6.2 j hj).1 ?_
      refine x_goto hE d_M_points_14 ?_
      exact x_iret hc d_M_points_18 (⟨by unfold am_points; rw [if_pos ht, nI_clamp (by omega)], hR⟩)
  · skip
    first | refine xn_if_eq hE d_M_points_5 (fun z => ?_) (fun z => ?_) | refine x_if_eq hE d_M_points_5 (fun z => ?_) (fun z => ?_)
    · skip
      refine x_iconst (-1) hE d_M_points_17 (by decide) ?_
      exact x_iret hc d_M_points_18 (⟨by unfold am_points; rw [if_neg ht], hR⟩)
    · exact absurd rfl z
theorem k_M_tile (hR : xm_R S σ) (hS : am_okS S) {u : Int32} : xk_M (xm G) 1 y_M_tile [.ref (xk_wA (xm G) 0), .int u] σ (xk_pi (fun r τ => r = am_tile S u ∧ xm_R S τ)) := by
  have hn8 := hS.1
  have r6 := hR.2.2.2.2.2.1
  refine xk_enter (by decide) (Nat.le_of_ble_eq_true rfl) (fun K hE hc => ?_)
  show xk_X K _ _ 0 [(0, _), (1, _)] []
  refine x_aload_n hE d_M_tile_0 0 rfl ?_
  refine x_iload_n hE d_M_tile_1 1 rfl ?_
  refine ca_M_104 hc d_M_tile_2 (k_M_isUnit r6.1) (fun r τ hq => ?_)
  obtain ⟨ht, rfl⟩ := hq
  rcases ht with ⟨rfl, ht⟩ | ⟨rfl, ht⟩
  · skip
    first | refine xn_if_eq hE d_M_tile_5 (fun z => ?_) (fun z => ?_) | refine x_if_eq hE d_M_tile_5 (fun z => ?_) (fun z => ?_)
    · exact absurd z (by decide)
    · skip
      obtain ⟨j, hj, rfl⟩ := am_has_of (by omega) ht
      have hb := (hS.2.2.2.2 j hj).1
      refine x_aload_n hE d_M_tile_8 0 rfl ?_
      refine gf_M_35 hc d_M_tile_9 ?_
      refine x_iload_n hE d_M_tile_12 1 rfl ?_
      refine x_iald hc rfl rfl (by omega) (by decide) d_M_tile_13 (r6.2 j hj).1 ?_
      first | refine xn_if_le hE d_M_tile_14 (fun y => ?_) (fun y => ?_) | refine x_if_le hE d_M_tile_14 (fun y => ?_) (fun y => ?_)
      · skip
        refine x_iconst (-1) hE d_M_tile_26 (by decide) ?_
        exact x_iret hc d_M_tile_27 (⟨by unfold am_tile; rw [if_neg (by rw [nI_clamp (by omega)]; omega)], hR⟩)
      · skip
        refine x_aload_n hE d_M_tile_17 0 rfl ?_
        refine gf_M_38 hc d_M_tile_18 ?_
        refine x_iload_n hE d_M_tile_21 1 rfl ?_
        refine x_iald hc rfl rfl (by omega) (by decide) d_M_tile_22 ((r6.2 j hj).2.1 y) ?_
        refine x_goto hE d_M_tile_23 ?_
        exact x_iret hc d_M_tile_27 (⟨by unfold am_tile; rw [nI_clamp (by omega), if_pos ⟨ht, y⟩], hR⟩)
  · skip
    first | refine xn_if_eq hE d_M_tile_5 (fun z => ?_) (fun z => ?_) | refine x_if_eq hE d_M_tile_5 (fun z => ?_) (fun z => ?_)
    · skip
      refine x_iconst (-1) hE d_M_tile_26 (by decide) ?_
      exact x_iret hc d_M_tile_27 (⟨by unfold am_tile; rw [if_neg (fun q => ht q.1)], hR⟩)
    · exact absurd rfl z
theorem k_M_order (hR : xm_R S σ) (hS : am_okS S) {u : Int32} : xk_M (xm G) 1 y_M_order [.ref (xk_wA (xm G) 0), .int u] σ (xk_pi (fun r τ => r = am_order S u ∧ xm_R S τ)) := by
  have hn8 := hS.1
  have r6 := hR.2.2.2.2.2.1
  refine xk_enter (by decide) (Nat.le_of_ble_eq_true rfl) (fun K hE hc => ?_)
  show xk_X K _ _ 0 [(0, _), (1, _)] []
  refine x_aload_n hE d_M_order_0 0 rfl ?_
  refine x_iload_n hE d_M_order_1 1 rfl ?_
  refine ca_M_104 hc d_M_order_2 (k_M_isUnit r6.1) (fun r τ hq => ?_)
  obtain ⟨ht, rfl⟩ := hq
  rcases ht with ⟨rfl, ht⟩ | ⟨rfl, ht⟩
  · skip
    first | refine xn_if_eq hE d_M_order_5 (fun z => ?_) (fun z => ?_) | refine x_if_eq hE d_M_order_5 (fun z => ?_) (fun z => ?_)
    · exact absurd z (by decide)
    · skip
      obtain ⟨j, hj, rfl⟩ := am_has_of (by omega) ht
      refine x_aload_n hE d_M_order_8 0 rfl ?_
      refine gf_M_41 hc d_M_order_9 ?_
      refine x_iload_n hE d_M_order_12 1 rfl ?_
      refine x_iald hc rfl rfl (by omega) (by decide) d_M_order_13 (r6.2 j hj).2.2.1 ?_
      refine x_iconst (nI 4) hE d_M_order_14 (by decide) ?_
      refine x_aload_n hE d_M_order_15 0 rfl ?_
      refine gf_M_44 hc d_M_order_16 ?_
      refine x_iload_n hE d_M_order_19 1 rfl ?_
      refine x_iald hc rfl rfl (by omega) (by decide) d_M_order_20 (r6.2 j hj).2.2.2.1 ?_
      first | refine xn_imul hE d_M_order_21 ?_ | refine x_imul hE d_M_order_21 ?_
      first | refine xn_iadd hE d_M_order_22 ?_ | refine x_iadd hE d_M_order_22 ?_
      refine x_goto hE d_M_order_23 ?_
      exact x_iret hc d_M_order_27 (⟨by unfold am_order; rw [if_pos ht, nI_clamp (by omega)], hR⟩)
  · skip
    first | refine xn_if_eq hE d_M_order_5 (fun z => ?_) (fun z => ?_) | refine x_if_eq hE d_M_order_5 (fun z => ?_) (fun z => ?_)
    · skip
      refine x_iconst (-1) hE d_M_order_26 (by decide) ?_
      exact x_iret hc d_M_order_27 (⟨by unfold am_order; rw [if_neg ht], hR⟩)
    · exact absurd rfl z
theorem k_M_path (hR : xm_R S σ) (hS : am_okS S) {u i : Int32} : xk_M (xm G) 1 y_M_path [.ref (xk_wA (xm G) 0), .int u, .int i] σ (xk_pi (fun r τ => r = am_path S u i ∧ xm_R S τ)) := by
  have hn8 := hS.1
  have r6 := hR.2.2.2.2.2.1
  have no : ∀ K : xk_K, xk_E K c_M_path 3 → xk_H K (xm G) c_M_path 3 RM 1 (some .int) (xk_pi (fun r τ => r = am_path S u i ∧ xm_R S τ)) → ¬ (am_has (aN S) u ∧ am_has (am_pth (aP S u.toNatClampNeg)).length i) → xk_X K (xk_vw (xm G)) σ 36 [(0, .ref (xk_wA (xm G) 0)), (1, .int u), (2, .int i)] [] := by
    intro K hE hc h
    refine x_iconst (-1) hE d_M_path_36 (by decide) ?_
    exact x_iret hc d_M_path_37 (⟨by unfold am_path; rw [if_neg h], hR⟩)
  refine xk_enter (by decide) (Nat.le_of_ble_eq_true rfl) (fun K hE hc => ?_)
  show xk_X K _ _ 0 [(0, _), (1, _), (2, _)] []
  refine x_aload_n hE d_M_path_0 0 rfl ?_
  refine x_iload_n hE d_M_path_1 1 rfl ?_
  refine ca_M_104 hc d_M_path_2 (k_M_isUnit r6.1) (fun r τ hq => ?_)
  obtain ⟨ht, rfl⟩ := hq
  rcases ht with ⟨rfl, ht⟩ | ⟨rfl, ht⟩
  · skip
    first | refine xn_if_eq hE d_M_path_5 (fun z => ?_) (fun z => ?_) | refine x_if_eq hE d_M_path_5 (fun z => ?_) (fun z => ?_)
    · exact absurd z (by decide)
    · skip
      refine x_iload_n hE d_M_path_8 2 rfl ?_
      refine x_if_lt hE d_M_path_9 (fun h1 => ?_) (fun h1 => ?_)
      · exact no K hE hc (fun q => q.2.1 h1)
      · skip
        obtain ⟨j, hj, rfl⟩ := am_has_of (by omega) ht
        have hlen := (hS.2.2.2.2 j hj).2.2.2.2.2.2.1
        have ej : (nI j).toNatClampNeg = j := nI_clamp (by omega)
        have hat := r6.2 j hj
        refine x_iload_n hE d_M_path_12 2 rfl ?_
        refine x_aload_n hE d_M_path_13 0 rfl ?_
        refine gf_M_53 hc d_M_path_14 ?_
        refine x_iload_n hE d_M_path_17 1 rfl ?_
        refine x_iald hc rfl rfl (by omega) (by decide) d_M_path_18 hat.2.2.2.2.2.1 ?_
        refine x_icmp_ge hE d_M_path_19 (fun h2 => ?_) (fun h2 => ?_)
        · exact no K hE hc (fun q => by rw [ej] at q; exact q.2.2 h2)
        · skip
          have hi : am_has (am_pth (aP S j)).length i := ⟨h1, h2⟩
          obtain ⟨ii, hii, rfl⟩ := am_has_of (by omega) hi
          refine x_aload_n hE d_M_path_22 0 rfl ?_
          refine gf_M_50 hc d_M_path_23 ?_
          refine x_bipush (nI 64) hE d_M_path_26 (by decide) ?_
          refine x_iload_n hE d_M_path_28 1 rfl ?_
          first | refine xn_imul hE d_M_path_29 ?_ | refine x_imul hE d_M_path_29 ?_
          refine x_iload_n hE d_M_path_30 2 rfl ?_
          first | refine xn_iadd hE d_M_path_31 ?_ | refine x_iadd hE d_M_path_31 ?_
          refine x_iald hc rfl rfl (by omega) (by decide) d_M_path_32 (hat.2.2.2.2.2.2.2 ii hii) ?_
          refine x_goto hE d_M_path_33 ?_
          refine x_iret hc d_M_path_37 ⟨?_, hR⟩
          unfold am_path
          rw [ej, if_pos ⟨ht, hi⟩, nI_clamp (by omega)]
          congr 1
          simp [hii]
  · skip
    first | refine xn_if_eq hE d_M_path_5 (fun z => ?_) (fun z => ?_) | refine x_if_eq hE d_M_path_5 (fun z => ?_) (fun z => ?_)
    · exact no K hE hc (fun q => ht q.1)
    · exact absurd rfl z
theorem k_M_begin (hR : xm_R S σ) : xk_M (xm G) 0 y_M_begin [.ref (xk_wA (xm G) 0)] σ (xk_pi (fun r τ => r = (am_begin S).1 ∧ xm_R (am_begin S).2 τ)) := by
  have hR0 := hR
  obtain ⟨r1, r2, r3, r4, r5, r6, r7, r8⟩ := hR
  refine xk_enter (by decide) (Nat.le_of_ble_eq_true rfl) (fun K hE hc => ?_)
  show xk_X K _ _ 0 [(0, _)] []
  refine x_aload_n hE d_M_begin_0 0 rfl ?_
  refine gf_M_93 hc d_M_begin_1 r2 ?_
  cases hbg : aBg S with
  | true =>
    first | refine xn_if_eq hE d_M_begin_4 (fun z => ?_) (fun z => ?_) | refine x_if_eq hE d_M_begin_4 (fun z => ?_) (fun z => ?_)
    · exact absurd z (by decide)
    · skip
      refine x_bipush (-3) hE d_M_begin_7 (by decide) ?_
      have e : am_begin S = (-3, S) := by unfold am_begin; rw [if_pos hbg]
      exact x_iret hc d_M_begin_9 (by rw [e]; exact ⟨rfl, hR0⟩)
  | false =>
    first | refine xn_if_eq hE d_M_begin_4 (fun z => ?_) (fun z => ?_) | refine x_if_eq hE d_M_begin_4 (fun z => ?_) (fun z => ?_)
    · skip
      refine x_aload_n hE d_M_begin_10 0 rfl ?_
      refine x_iconst (nI 1) hE d_M_begin_11 (by decide) ?_
      refine pf_M_93 hc d_M_begin_12 (by first | exact Or.inl rfl | exact Or.inr rfl | assumption) ?_
      refine x_aload_n hE d_M_begin_15 0 rfl ?_
      refine gf_M_89 hc d_M_begin_16 (show _ = nI (aN S) by rw [xk_up_s, if_neg (by decide)]; exact r6.1) ?_
      have e : am_begin S = (nI (aN S), (aW S, aN S, aSd S, aSt S, true, S.2.2.2.2.2)) := by unfold am_begin; rw [if_neg (by rw [hbg]; simp)]
      refine x_iret hc d_M_begin_19 ?_
      rw [e]
      refine ⟨rfl, r1.mv (xk_up_o (by decide)), ?_, ?_, fun i hi => ?_, ⟨?_, fun e he => ?_⟩, ⟨?_, fun u hu => ?_⟩, fun u hu => ?_, fun q => by cases q⟩
      · rw [xk_up_s, if_pos rfl]; rfl
      · rw [xk_up_s, if_neg (by decide)]; exact r3
      · rw [xk_up_o (by decide)]; exact r4 i hi
      · rw [xk_up_s, if_neg (by decide)]; exact r5.1
      · rw [xk_up_o (by decide), xk_up_o (by decide), xk_up_o (by decide), xk_up_o (by decide)]; exact r5.2 e he
      · rw [xk_up_s, if_neg (by decide)]; exact r6.1
      · have h := r6.2 u hu
        unfold xm_at at h ⊢
        rw [xk_up_o (by decide), xk_up_o (by decide), xk_up_o (by decide), xk_up_o (by decide), xk_up_o (by decide), xk_up_o (by decide), xk_up_o (by decide)]
        exact h
      · rw [xk_up_o (by decide), xk_up_o (by decide)]; exact r7 u hu
    · exact absurd rfl z
theorem k_M_wall (hR : xm_R S σ) (hS : am_okS S) {t b : Int32} (hb : b = nI 0 ∨ b = nI 1) : xk_M (xm G) 1 y_M_wall [.ref (xk_wA (xm G) 0), .int t, .int b] σ (xk_pi (fun r τ => r = (am_wall S t b).1 ∧ xm_R (am_wall S t b).2 τ)) := by
  have hR0 := hR
  obtain ⟨r1, r2, r3, r4, r5, r6, r7, r8⟩ := hR
  have no : ∀ K : xk_K, xk_E K c_M_wall 3 → xk_H K (xm G) c_M_wall 3 RM 1 (some .boolean) (xk_pi (fun r τ => r = (am_wall S t b).1 ∧ xm_R (am_wall S t b).2 τ)) → (aBg S = true ∨ ¬ am_has 64 t ∨ am_taken (aP S) t.toNatClampNeg (aN S) = true) → xk_X K (xk_vw (xm G)) σ 22 [(0, .ref (xk_wA (xm G) 0)), (1, .int t), (2, .int b)] [] := by
    intro K hE hc h
    refine x_iconst (nI 0) hE d_M_wall_22 (by decide) ?_
    have e : am_wall S t b = (nI 0, S) := by unfold am_wall; rw [if_pos h]
    exact x_zret hc d_M_wall_23 (by first | exact Or.inl rfl | exact Or.inr rfl | assumption | omega) (by rw [e]; exact ⟨rfl, hR0⟩)
  refine xk_enter (by decide) (Nat.le_of_ble_eq_true rfl) (fun K hE hc => ?_)
  show xk_X K _ _ 0 [(0, _), (1, _), (2, _)] []
  refine x_aload_n hE d_M_wall_0 0 rfl ?_
  refine gf_M_93 hc d_M_wall_1 r2 ?_
  cases hbg : aBg S with
  | true =>
    first | refine xn_if_ne hE d_M_wall_4 (fun z => ?_) (fun z => ?_) | refine x_if_ne hE d_M_wall_4 (fun z => ?_) (fun z => ?_)
    · exact no K hE hc (Or.inl hbg)
    · exact absurd z (by decide)
  | false =>
    first | refine xn_if_ne hE d_M_wall_4 (fun z => ?_) (fun z => ?_) | refine x_if_ne hE d_M_wall_4 (fun z => ?_) (fun z => ?_)
    · exact absurd rfl z
    · skip
      refine x_iload_n hE d_M_wall_7 1 rfl ?_
      refine ca_M_97 hc d_M_wall_8 (k_M_isTile) (fun r τ hq => ?_)
      obtain ⟨ht, rfl⟩ := hq
      rcases ht with ⟨rfl, ht⟩ | ⟨rfl, ht⟩
      · skip
        first | refine xn_if_eq hE d_M_wall_11 (fun z => ?_) (fun z => ?_) | refine x_if_eq hE d_M_wall_11 (fun z => ?_) (fun z => ?_)
        · exact absurd z (by decide)
        · skip
          obtain ⟨j, hj, rfl⟩ := am_has_of (by decide) ht
          have ej : (nI j).toNatClampNeg = j := nI_clamp (by omega)
          refine x_aload_n hE d_M_wall_14 0 rfl ?_
          refine x_iload_n hE d_M_wall_15 1 rfl ?_
          refine ca_M_101 hc d_M_wall_16 (k_M_isTaken hS.1 r6 hS.2.2.2.2 hj) (fun r τ hq => ?_)
          obtain ⟨rfl, rfl⟩ := hq
          cases hta : am_taken (aP S) j (aN S) with
          | true =>
            first | refine xn_if_eq hE d_M_wall_19 (fun z => ?_) (fun z => ?_) | refine x_if_eq hE d_M_wall_19 (fun z => ?_) (fun z => ?_)
            · exact absurd z (by decide)
            · exact no K hE hc (Or.inr (Or.inr (by rw [ej]; exact hta)))
          | false =>
            first | refine xn_if_eq hE d_M_wall_19 (fun z => ?_) (fun z => ?_) | refine x_if_eq hE d_M_wall_19 (fun z => ?_) (fun z => ?_)
            · skip
              refine x_aload_n hE d_M_wall_24 0 rfl ?_
              refine gf_M_7 hc d_M_wall_25 ?_
              refine x_iload_n hE d_M_wall_28 1 rfl ?_
              refine x_iload_n hE d_M_wall_29 2 rfl ?_
              refine x_zast hc rfl rfl (by omega) (by decide) (by rcases hb with rfl | rfl <;> decide +kernel) d_M_wall_30 ?_
              refine x_iconst (nI 1) hE d_M_wall_31 (by decide) ?_
              have e : am_wall S (nI j) b = (nI 1, (am_set (aW S) j (decide (b ≠ 0)), S.2)) := by
                unfold am_wall
                rw [if_neg (by rw [ej, hta, hbg]; simp [ht]), ej]
              refine x_zret hc d_M_wall_32 (Or.inr rfl) ?_
              rw [e]
              refine ⟨rfl, fun i hi => ?_, ?_, ?_, fun i hi => ?_, ⟨?_, fun e he => ?_⟩, ⟨?_, fun u hu => ?_⟩, fun u hu => ?_, fun q u h1 h2 => ?_⟩
              · rw [xk_up_s]
                show _ = if am_set (aW S) j (decide (b ≠ 0)) i = true then nI 1 else nI 0
                by_cases e1 : i = j
                · subst e1
                  rw [if_pos rfl, am_set_s]
                  rcases hb with rfl | rfl
                  · rfl
                  · rfl
                · rw [if_neg e1, am_set_n e1]; exact r1 i hi
              · rw [xk_up_o (by decide)]; exact r2
              · rw [xk_up_o (by decide)]; exact r3
              · rw [xk_up_o (by decide)]; exact r4 i hi
              · rw [xk_up_o (by decide)]; exact r5.1
              · rw [xk_up_o (by decide), xk_up_o (by decide), xk_up_o (by decide), xk_up_o (by decide)]; exact r5.2 e he
              · rw [xk_up_o (by decide)]; exact r6.1
              · have h := r6.2 u hu
                unfold xm_at at h ⊢
                rw [xk_up_o (by decide), xk_up_o (by decide), xk_up_o (by decide), xk_up_o (by decide), xk_up_o (by decide), xk_up_o (by decide), xk_up_o (by decide)]
                exact h
              · rw [xk_up_o (by decide), xk_up_o (by decide)]; exact r7 u hu
              · rw [xk_up_o (by decide), xk_up_o (by decide), xk_up_o (by decide), xk_up_o (by decide)]; exact r8 q u h1 h2
            · exact absurd rfl z
      · skip
        first | refine xn_if_eq hE d_M_wall_11 (fun z => ?_) (fun z => ?_) | refine x_if_eq hE d_M_wall_11 (fun z => ?_) (fun z => ?_)
        · exact no K hE hc (Or.inr (Or.inl ht))
        · exact absurd rfl z
theorem am_two {s : Int32} : nI 1 < s ↔ nI 2 ≤ s := by
  rw [Int32.lt_iff_toInt_lt, Int32.le_iff_toInt_le, nI_toInt (by decide), nI_toInt (by decide)]
  omega
theorem k_M_unit (hR : xm_R S σ) (hS : am_okS S) {s t : Int32} : xk_M (xm G) 1 y_M_unit [.ref (xk_wA (xm G) 0), .int s, .int t] σ (xk_pi (fun r τ => r = (am_unit S s t).1 ∧ xm_R (am_unit S s t).2 τ)) := by
  have hR0 := hR
  have hn8 := hS.1
  obtain ⟨r1, r2, r3, r4, r5, r6, r7, r8⟩ := hR
  have no : ∀ K : xk_K, xk_E K c_M_unit 3 → xk_H K (xm G) c_M_unit 3 RM 1 (some .int) (xk_pi (fun r τ => r = (am_unit S s t).1 ∧ xm_R (am_unit S s t).2 τ)) → aBg S = false → (¬ am_has 2 s ∨ ¬ am_has 64 t ∨ aW S t.toNatClampNeg = true ∨ am_taken (aP S) t.toNatClampNeg (aN S) = true) → xk_X K (xk_vw (xm G)) σ 43 [(0, .ref (xk_wA (xm G) 0)), (1, .int s), (2, .int t)] [] := by
    intro K hE hc hbg h
    refine x_iconst (-1) hE d_M_unit_43 (by decide) ?_
    have e : am_unit S s t = (-1, S) := by unfold am_unit; rw [if_neg (by rw [hbg]; simp), if_pos h]
    exact x_iret hc d_M_unit_44 (by rw [e]; exact ⟨rfl, hR0⟩)
  refine xk_enter (by decide) (Nat.le_of_ble_eq_true rfl) (fun K hE hc => ?_)
  show xk_X K _ _ 0 [(0, _), (1, _), (2, _)] []
  refine x_aload_n hE d_M_unit_0 0 rfl ?_
  refine gf_M_93 hc d_M_unit_1 r2 ?_
  cases hbg : aBg S with
  | true =>
    first | refine xn_if_eq hE d_M_unit_4 (fun z => ?_) (fun z => ?_) | refine x_if_eq hE d_M_unit_4 (fun z => ?_) (fun z => ?_)
    · exact absurd z (by decide)
    · skip
      refine x_bipush (-3) hE d_M_unit_7 (by decide) ?_
      have e : am_unit S s t = (-3, S) := by unfold am_unit; rw [if_pos hbg]
      exact x_iret hc d_M_unit_9 (by rw [e]; exact ⟨rfl, hR0⟩)
  | false =>
    first | refine xn_if_eq hE d_M_unit_4 (fun z => ?_) (fun z => ?_) | refine x_if_eq hE d_M_unit_4 (fun z => ?_) (fun z => ?_)
    · skip
      refine x_iload_n hE d_M_unit_10 1 rfl ?_
      refine x_if_lt hE d_M_unit_11 (fun h1 => ?_) (fun h1 => ?_)
      · exact no K hE hc hbg (Or.inl (fun q => q.1 h1))
      · skip
        refine x_iload_n hE d_M_unit_14 1 rfl ?_
        refine x_iconst (nI 1) hE d_M_unit_15 (by decide) ?_
        refine x_icmp_gt hE d_M_unit_16 (fun h2 => ?_) (fun h2 => ?_)
        · exact no K hE hc hbg (Or.inl (fun q => q.2 (am_two.mp h2)))
        · skip
          have hs : am_has 2 s := ⟨h1, fun q => h2 (am_two.mpr q)⟩
          refine x_iload_n hE d_M_unit_19 2 rfl ?_
          refine ca_M_97 hc d_M_unit_20 (k_M_isTile) (fun r τ hq => ?_)
          obtain ⟨ht, rfl⟩ := hq
          rcases ht with ⟨rfl, ht⟩ | ⟨rfl, ht⟩
          · skip
            first | refine xn_if_eq hE d_M_unit_23 (fun z => ?_) (fun z => ?_) | refine x_if_eq hE d_M_unit_23 (fun z => ?_) (fun z => ?_)
            · exact absurd z (by decide)
            · skip
              obtain ⟨js, hjs, rfl⟩ := am_has_of (by decide) hs
              obtain ⟨j, hj, rfl⟩ := am_has_of (by decide) ht
              have ej : (nI j).toNatClampNeg = j := nI_clamp (by omega)
              have ejs : (nI js).toNatClampNeg = js := nI_clamp (by omega)
              refine x_aload_n hE d_M_unit_26 0 rfl ?_
              refine gf_M_7 hc d_M_unit_27 ?_
              refine x_iload_n hE d_M_unit_30 2 rfl ?_
              refine x_zald hc rfl rfl (by omega) (by decide) d_M_unit_31 (r1 j hj) ?_
              cases hw : aW S j with
              | true =>
                first | refine xn_if_ne hE d_M_unit_32 (fun z => ?_) (fun z => ?_) | refine x_if_ne hE d_M_unit_32 (fun z => ?_) (fun z => ?_)
                · exact no K hE hc hbg (Or.inr (Or.inr (Or.inl (by rw [ej]; exact hw))))
                · exact absurd z (by decide)
              | false =>
                first | refine xn_if_ne hE d_M_unit_32 (fun z => ?_) (fun z => ?_) | refine x_if_ne hE d_M_unit_32 (fun z => ?_) (fun z => ?_)
                · exact absurd rfl z
                · skip
                  refine x_aload_n hE d_M_unit_35 0 rfl ?_
                  refine x_iload_n hE d_M_unit_36 2 rfl ?_
                  refine ca_M_101 hc d_M_unit_37 (k_M_isTaken hS.1 r6 hS.2.2.2.2 hj) (fun r τ hq => ?_)
                  obtain ⟨rfl, rfl⟩ := hq
                  cases hta : am_taken (aP S) j (aN S) with
                  | true =>
                    first | refine xn_if_eq hE d_M_unit_40 (fun z => ?_) (fun z => ?_) | refine x_if_eq hE d_M_unit_40 (fun z => ?_) (fun z => ?_)
                    · exact absurd z (by decide)
                    · exact no K hE hc hbg (Or.inr (Or.inr (Or.inr (by rw [ej]; exact hta))))
                  | false =>
                    first | refine xn_if_eq hE d_M_unit_40 (fun z => ?_) (fun z => ?_) | refine x_if_eq hE d_M_unit_40 (fun z => ?_) (fun z => ?_)
                    · skip
                      have hneg : ¬ (¬ am_has 2 (nI js) ∨ ¬ am_has 64 (nI j) ∨ aW S (nI j).toNatClampNeg = true ∨ am_taken (aP S) (nI j).toNatClampNeg (aN S) = true) := by
                        rw [ej, hw, hta]
                        intro q
                        rcases q with q | q | q | q
                        · exact q hs
                        · exact q ht
                        · cases q
                        · cases q
                      refine x_aload_n hE d_M_unit_45 0 rfl ?_
                      refine gf_M_89 hc d_M_unit_46 r6.1 ?_
                      refine x_bipush (nI 8) hE d_M_unit_49 (by decide) ?_
                      first | refine xn_icmp_ne hE d_M_unit_51 (fun h8 => ?_) (fun h8 => ?_) | refine x_icmp_ne hE d_M_unit_51 (fun h8 => ?_) (fun h8 => ?_)
                      · skip
                        have hn7 : aN S < 8 := by omega
                        refine x_aload_n hE d_M_unit_57 0 rfl ?_
                        refine gf_M_13 hc d_M_unit_58 ?_
                        refine x_aload_n hE d_M_unit_61 0 rfl ?_
                        refine gf_M_89 hc d_M_unit_62 r6.1 ?_
                        refine x_iload_n hE d_M_unit_65 1 rfl ?_
                        refine x_iast hc rfl rfl (by omega) (by decide) d_M_unit_66 ?_
                        refine x_aload_n hE d_M_unit_67 0 rfl ?_
                        refine gf_M_17 hc d_M_unit_68 ?_
                        refine x_aload_n hE d_M_unit_71 0 rfl ?_
                        refine gf_M_89 hc d_M_unit_72 (show _ = nI (aN S) by rw [xk_up_o (by decide)]; exact r6.1) ?_
                        refine x_iload_n hE d_M_unit_75 2 rfl ?_
                        refine x_iast hc rfl rfl (by omega) (by decide) d_M_unit_76 ?_
                        refine x_aload_n hE d_M_unit_77 0 rfl ?_
                        refine gf_M_38 hc d_M_unit_78 ?_
                        refine x_aload_n hE d_M_unit_81 0 rfl ?_
                        refine gf_M_89 hc d_M_unit_82 (show _ = nI (aN S) by rw [xk_up_o (by decide), xk_up_o (by decide)]; exact r6.1) ?_
                        refine x_iload_n hE d_M_unit_85 2 rfl ?_
                        refine x_iast hc rfl rfl (by omega) (by decide) d_M_unit_86 ?_
                        refine x_aload_n hE d_M_unit_87 0 rfl ?_
                        refine gf_M_35 hc d_M_unit_88 ?_
                        refine x_aload_n hE d_M_unit_91 0 rfl ?_
                        refine gf_M_89 hc d_M_unit_92 (show _ = nI (aN S) by rw [xk_up_o (by decide), xk_up_o (by decide), xk_up_o (by decide)]; exact r6.1) ?_
                        refine x_bipush (nI 20) hE d_M_unit_95 (by decide) ?_
                        refine x_iast hc rfl rfl (by omega) (by decide) d_M_unit_97 ?_
                        refine x_aload_n hE d_M_unit_98 0 rfl ?_
                        refine x_dup hE d_M_unit_99 rfl ?_
                        refine gf_M_89 hc d_M_unit_100 (show _ = nI (aN S) by rw [xk_up_o (by decide), xk_up_o (by decide), xk_up_o (by decide), xk_up_o (by decide)]; exact r6.1) ?_
                        refine x_iconst (nI 1) hE d_M_unit_103 (by decide) ?_
                        first | refine xn_iadd hE d_M_unit_104 ?_ | refine x_iadd hE d_M_unit_104 ?_
                        refine pf_M_89 hc d_M_unit_105 ?_
                        refine x_aload_n hE d_M_unit_108 0 rfl ?_
                        refine gf_M_89 hc d_M_unit_109 (by rw [xk_up_s, if_pos rfl]) ?_
                        refine x_iconst (nI 1) hE d_M_unit_112 (by decide) ?_
                        first | refine xn_isub hE d_M_unit_113 ?_ | refine x_isub hE d_M_unit_113 ?_
                        have e : am_unit S (nI js) (nI j) = (nI (aN S), (aW S, aN S + 1, am_set (aSd S) (aN S) js, am_set (aSt S) (aN S) j, aBg S, aPl S, aNm S, aCn S, aL S, am_set (aP S) (aN S) (20, j, 0, 0, 0, []))) := by
                          unfold am_unit
                          rw [if_neg (by rw [hbg]; simp), if_neg hneg, if_neg h8, ej, ejs]
                        refine x_iret hc d_M_unit_114 ?_
                        rw [e]
                        obtain ⟨z1, z2, z3, z4⟩ := r8 hbg (aN S) (Nat.le_refl _) hn7
                        refine ⟨rfl, r1.mv ?_, ?_, ?_, fun i hi => ?_, ⟨?_, fun e he => ?_⟩, ⟨?_, fun u hu => ?_⟩, fun u hu => ?_, fun q u h1 h2 => ?_⟩
                        · simp (disch := omega) only [xk_up_o]
                        · simp (disch := omega) only [xk_up_s, xk_up_o]; exact r2
                        · simp (disch := omega) only [xk_up_s, xk_up_o]; exact r3
                        · simp (disch := omega) only [xk_up_s, xk_up_o]; exact r4 i hi
                        · simp (disch := omega) only [xk_up_s, xk_up_o]; exact r5.1
                        · simp (disch := omega) only [xk_up_s, xk_up_o]; exact r5.2 e he
                        · rw [xk_up_s, if_pos rfl]
                        · have hu : u < aN S + 1 := hu
                          show xm_at _ u (am_set (aP S) (aN S) (20, j, 0, 0, 0, []) u)
                          by_cases e1 : u = aN S
                          · subst e1
                            rw [am_set_s]
                            refine ⟨?_, fun _ => ?_, ?_, ?_, ?_, ?_, Nat.zero_le _, fun i hi => absurd hi (Nat.not_lt_zero _)⟩
                            all_goals simp (disch := omega) only [xk_up_s, xk_up_o]
                            · rfl
                            · rfl
                            · exact z1
                            · exact z2
                            · exact z3
                            · exact z4
                          · rw [am_set_n e1]
                            obtain ⟨g1, g2, g3, g4, g5, g6, g7, g8⟩ := r6.2 u (by omega)
                            refine ⟨?_, ?_, ?_, ?_, ?_, ?_, g7, fun i hi => ?_⟩
                            all_goals simp (disch := omega) only [xk_up_s, xk_up_o]
                            · rw [if_neg e1]; exact g1
                            · rw [if_neg e1]; exact g2
                            · exact g3
                            · exact g4
                            · exact g5
                            · exact g6
                            · exact g8 i hi
                        · have hu : u < aN S + 1 := hu
                          show _ = nI (am_set (aSd S) (aN S) js u) ∧ _ = nI (am_set (aSt S) (aN S) j u)
                          simp (disch := omega) only [xk_up_s, xk_up_o]
                          by_cases e1 : u = aN S
                          · subst e1
                            rw [am_set_s, am_set_s, if_pos rfl, if_pos rfl]
                            exact ⟨rfl, rfl⟩
                          · rw [am_set_n e1, am_set_n e1, if_neg e1, if_neg e1]
                            exact r7 u (by omega)
                        · have h1 : aN S + 1 ≤ u := h1
                          simp (disch := omega) only [xk_up_s, xk_up_o]
                          exact r8 q u (by omega) h2
                      · skip
                        refine x_bipush (-2) hE d_M_unit_54 (by decide) ?_
                        have e : am_unit S (nI js) (nI j) = (-2, S) := by
                          unfold am_unit
                          rw [if_neg (by rw [hbg]; simp), if_neg hneg, if_pos h8]
                        exact x_iret hc d_M_unit_56 (by rw [e]; exact ⟨rfl, hR0⟩)
                    · exact absurd rfl z
          · skip
            first | refine xn_if_eq hE d_M_unit_23 (fun z => ?_) (fun z => ?_) | refine x_if_eq hE d_M_unit_23 (fun z => ?_) (fun z => ?_)
            · exact no K hE hc hbg (Or.inr (Or.inl ht))
            · exact absurd rfl z
    · exact absurd rfl z
theorem xm_steps {a b : Nat} (ha : a < 64) (free : Nat → Bool) : xc_dp (am_end free a b) b = (if (am_find free a b).length = 0 ∧ a ≠ b then -1 else nI (am_find free a b).length) := by
  have h := am_inv_end (free := free) (b := b) ha
  by_cases hf : (am_end free a b).2.2.1 b = none
  · have e : am_find free a b = [] := by unfold am_find; rw [if_pos hf]
    have hab : a ≠ b := fun q => h.2.1 (Eq.trans (congrArg (am_end free a b).2.2.1 q) hf)
    rw [xc_dp_n hf, e, if_pos ⟨rfl, hab⟩]
  · have e : am_find free a b = am_chain (am_end free a b).2.2.1 ((am_end free a b).2.2.2 b) b := by unfold am_find; rw [if_neg hf]
    obtain ⟨x, hx⟩ := Option.ne_none_iff_exists'.mp hf
    rw [xc_dp_s hf, e, am_chain_len, if_neg]
    intro q
    rcases (h.2.2.2 b x hx).2.2.2.2 with ⟨g1, -⟩ | ⟨-, g1⟩
    · exact q.2 g1.symm
    · omega
theorem xm_R_F {τ : xk_St} (h : xm_R S σ) (hF : xm_F σ τ) : xm_R S τ := by
  obtain ⟨r1, r2, r3, r4, r5, r6, r7, r8⟩ := h
  have e : ∀ k, k ≠ 23 → k ≠ 24 → k ≠ 25 → τ.1 k = σ.1 k := hF.2
  refine ⟨r1.mv (e 1 (by decide) (by decide) (by decide)), ?_, ?_, fun i hi => ?_, r5.mv (fun k hk => e k (by omega) (by omega) (by omega)), r6.mv (fun k hk => e k (by omega) (by omega) (by omega)), fun u hu => ?_, fun q u h1 h2 => ?_⟩
  · rw [e 0 (by decide) (by decide) (by decide)]; exact r2
  · rw [e 0 (by decide) (by decide) (by decide)]; exact r3
  · rw [e 4 (by decide) (by decide) (by decide)]; exact r4 i hi
  · rw [e 2 (by decide) (by decide) (by decide), e 3 (by decide) (by decide) (by decide)]; exact r7 u hu
  · rw [e 11 (by decide) (by decide) (by decide), e 12 (by decide) (by decide) (by decide), e 13 (by decide) (by decide) (by decide), e 15 (by decide) (by decide) (by decide)]; exact r8 q u h1 h2
theorem k_M_steps (hR : xm_R S σ) (hS : am_okS S) {a b : Int32} : xk_M (xm G) 2 y_M_steps [.ref (xk_wA (xm G) 0), .int a, .int b] σ (xk_pi (fun r τ => r = am_steps S a b ∧ xm_R S τ)) := by
  have r1 := hR.1
  have r6 := hR.2.2.2.2.2.1
  have no : ∀ K : xk_K, xk_E K c_M_steps 4 → xk_H K (xm G) c_M_steps 4 RM 2 (some .int) (xk_pi (fun r τ => r = am_steps S a b ∧ xm_R S τ)) → (¬ am_has 64 a ∨ ¬ am_has 64 b ∨ aW S a.toNatClampNeg = true ∨ aW S b.toNatClampNeg = true) → xk_X K (xk_vw (xm G)) σ 32 [(0, .ref (xk_wA (xm G) 0)), (1, .int a), (2, .int b)] [] := by
    intro K hE hc h
    refine x_iconst (-1) hE d_M_steps_32 (by decide) ?_
    exact x_iret hc d_M_steps_33 (⟨by unfold am_steps; rw [if_pos h], hR⟩)
  refine xk_enter (by decide) (Nat.le_of_ble_eq_true rfl) (fun K hE hc => ?_)
  show xk_X K _ _ 0 [(0, _), (1, _), (2, _)] []
  refine x_iload_n hE d_M_steps_0 1 rfl ?_
  refine ca_M_97 hc d_M_steps_1 (k_M_isTile) (fun r τ hq => ?_)
  obtain ⟨ht, rfl⟩ := hq
  rcases ht with ⟨rfl, ht⟩ | ⟨rfl, ht⟩
  · skip
    first | refine xn_if_eq hE d_M_steps_4 (fun z => ?_) (fun z => ?_) | refine x_if_eq hE d_M_steps_4 (fun z => ?_) (fun z => ?_)
    · exact absurd z (by decide)
    · skip
      refine x_iload_n hE d_M_steps_7 2 rfl ?_
      refine ca_M_97 hc d_M_steps_8 (k_M_isTile) (fun r τ hq => ?_)
      obtain ⟨hu, rfl⟩ := hq
      rcases hu with ⟨rfl, hu⟩ | ⟨rfl, hu⟩
      · skip
        first | refine xn_if_eq hE d_M_steps_11 (fun z => ?_) (fun z => ?_) | refine x_if_eq hE d_M_steps_11 (fun z => ?_) (fun z => ?_)
        · exact absurd z (by decide)
        · skip
          obtain ⟨ja, hja, rfl⟩ := am_has_of (by decide) ht
          obtain ⟨jb, hjb, rfl⟩ := am_has_of (by decide) hu
          have ea : (nI ja).toNatClampNeg = ja := nI_clamp (by omega)
          have eb : (nI jb).toNatClampNeg = jb := nI_clamp (by omega)
          refine x_aload_n hE d_M_steps_14 0 rfl ?_
          refine gf_M_7 hc d_M_steps_15 ?_
          refine x_iload_n hE d_M_steps_18 1 rfl ?_
          refine x_zald hc rfl rfl (by omega) (by decide) d_M_steps_19 (r1 ja hja) ?_
          cases hwa : aW S ja with
          | true =>
            first | refine xn_if_ne hE d_M_steps_20 (fun z => ?_) (fun z => ?_) | refine x_if_ne hE d_M_steps_20 (fun z => ?_) (fun z => ?_)
            · exact no K hE hc (Or.inr (Or.inr (Or.inl (by rw [ea]; exact hwa))))
            · exact absurd z (by decide)
          | false =>
            first | refine xn_if_ne hE d_M_steps_20 (fun z => ?_) (fun z => ?_) | refine x_if_ne hE d_M_steps_20 (fun z => ?_) (fun z => ?_)
            · exact absurd rfl z
            · skip
              refine x_aload_n hE d_M_steps_23 0 rfl ?_
              refine gf_M_7 hc d_M_steps_24 ?_
              refine x_iload_n hE d_M_steps_27 2 rfl ?_
              refine x_zald hc rfl rfl (by omega) (by decide) d_M_steps_28 (r1 jb hjb) ?_
              cases hwb : aW S jb with
              | true =>
                first | refine xn_if_eq hE d_M_steps_29 (fun z => ?_) (fun z => ?_) | refine x_if_eq hE d_M_steps_29 (fun z => ?_) (fun z => ?_)
                · exact absurd z (by decide)
                · exact no K hE hc (Or.inr (Or.inr (Or.inr (by rw [eb]; exact hwb))))
              | false =>
                first | refine xn_if_eq hE d_M_steps_29 (fun z => ?_) (fun z => ?_) | refine x_if_eq hE d_M_steps_29 (fun z => ?_) (fun z => ?_)
                · skip
                  refine x_aload_n hE d_M_steps_34 0 rfl ?_
                  refine x_iload_n hE d_M_steps_35 1 rfl ?_
                  refine x_iload_n hE d_M_steps_36 2 rfl ?_
                  refine x_iconst (nI 0) hE d_M_steps_37 (by decide) ?_
                  have hav0 : ∀ q, (fun _ => false : Nat → Bool) q = (decide (0 = 1) && am_taken (aP S) q (aN S)) := fun q => by simp
                  refine ca_M_117 hc d_M_steps_38 (k_M_find hS.1 r6 hS.2.2.2.2 r1 hja hjb (by decide) hav0) (fun r τ hq => ?_)
                  obtain ⟨rfl, q1, q2⟩ := hq
                  have hfo := am_find_ok (free := am_free (aW S) (fun _ => false) jb) (b := jb) hja
                  have e : am_steps S (nI ja) (nI jb) = xc_dp (am_end (am_free (aW S) (fun _ => false) jb) ja jb) jb := by
                    unfold am_steps
                    rw [ea, eb, hwa, hwb, if_neg (fun q => by
                      rcases q with q | q | q | q
                      · exact q ht
                      · exact q hu
                      · cases q
                      · cases q)]
                  rw [xm_steps hja] at e
                  have hlt := hfo.1
                  refine x_istore_n [(3, _), (0, _), (1, _), (2, _)] hE d_M_steps_41 rfl (by decide) rfl ?_
                  refine x_iload_n hE d_M_steps_42 0 rfl ?_
                  first | refine xn_if_ne hE d_M_steps_43 (fun g => ?_) (fun g => ?_) | refine x_if_ne hE d_M_steps_43 (fun g => ?_) (fun g => ?_)
                  · skip
                    refine x_iload_n hE d_M_steps_55 0 rfl ?_
                    exact x_iret hc d_M_steps_56 (⟨by rw [e, if_neg (fun q => g q.1)], xm_R_F hR q2⟩)
                  · skip
                    refine x_iload_n hE d_M_steps_46 2 rfl ?_
                    refine x_iload_n hE d_M_steps_47 3 rfl ?_
                    first | refine xn_icmp_eq hE d_M_steps_48 (fun y => ?_) (fun y => ?_) | refine x_icmp_eq hE d_M_steps_48 (fun y => ?_) (fun y => ?_)
                    · skip
                      refine x_iload_n hE d_M_steps_55 0 rfl ?_
                      exact x_iret hc d_M_steps_56 (⟨by rw [e, if_neg (fun q => q.2 y)], xm_R_F hR q2⟩)
                    · skip
                      refine x_iconst (-1) hE d_M_steps_51 (by decide) ?_
                      refine x_goto hE d_M_steps_52 ?_
                      exact x_iret hc d_M_steps_56 (⟨by rw [e, if_pos ⟨g, y⟩], xm_R_F hR q2⟩)
                · exact absurd rfl z
      · skip
        first | refine xn_if_eq hE d_M_steps_11 (fun z => ?_) (fun z => ?_) | refine x_if_eq hE d_M_steps_11 (fun z => ?_) (fun z => ?_)
        · exact no K hE hc (Or.inr (Or.inl hu))
        · exact absurd rfl z
  · skip
    first | refine xn_if_eq hE d_M_steps_4 (fun z => ?_) (fun z => ?_) | refine x_if_eq hE d_M_steps_4 (fun z => ?_) (fun z => ?_)
    · exact no K hE hc (Or.inl ht)
    · exact absurd rfl z
end XM5
