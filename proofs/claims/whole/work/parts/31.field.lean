/-! FIELD: each call over the picture -/
def xc_R (S : am_S) (σ : xk_St) : Prop := xc_W (aW S) σ ∧ σ.1 0 5 = nI (aPl S) ∧ σ.1 0 6 = (if aBg S = true then nI 1 else nI 0) ∧ (∀ i, i < aPl S → σ.1 16 i = aNm S i) ∧ xc_L (aCn S) (aL S) σ ∧ xc_pl 0 (aN S) (aP S) σ ∧ σ.1 13 3 = nI (aN S) ∧ ∀ p, p < 2 → ∀ u, u < aN S → σ.1 (17 + 8 * p + u) 0 = nI (aSd S u) ∧ σ.1 (17 + 8 * p + u) 1 = nI (aSt S u)
section XF
variable {G : xk_D} {σ : xk_St} {S : am_S}
theorem k_F_isTile {t : Int32} : xk_M (xc G) 0 y_F_isTile [.int t] σ (xk_pi (fun r τ => ((r = nI 1 ∧ am_has 64 t) ∨ (r = nI 0 ∧ ¬ am_has 64 t)) ∧ σ = τ)) := by
  refine xk_enter (by decide) (Nat.le_of_ble_eq_true rfl) (fun K hE hc => ?_)
  show xk_X K _ _ 0 [(0, _)] []
  refine x_iload_n hE d_F_isTile_0 0 rfl ?_
  refine x_if_lt hE d_F_isTile_1 (fun h => ?_) (fun h => ?_)
  · skip
    refine x_iconst (nI 0) hE d_F_isTile_14 (by decide) ?_
    exact x_zret hc d_F_isTile_15 (by first | exact Or.inl rfl | exact Or.inr rfl | assumption | omega) (⟨Or.inr ⟨rfl, fun z => z.1 h⟩, rfl⟩)
  · skip
    refine x_iload_n hE d_F_isTile_4 0 rfl ?_
    refine x_bipush (nI 64) hE d_F_isTile_5 (by decide) ?_
    refine x_icmp_ge hE d_F_isTile_7 (fun g => ?_) (fun g => ?_)
    · skip
      refine x_iconst (nI 0) hE d_F_isTile_14 (by decide) ?_
      exact x_zret hc d_F_isTile_15 (by first | exact Or.inl rfl | exact Or.inr rfl | assumption | omega) (⟨Or.inr ⟨rfl, fun z => z.2 g⟩, rfl⟩)
    · skip
      refine x_iconst (nI 1) hE d_F_isTile_10 (by decide) ?_
      refine x_goto hE d_F_isTile_11 ?_
      exact x_zret hc d_F_isTile_15 (by first | exact Or.inl rfl | exact Or.inr rfl | assumption | omega) (⟨Or.inl ⟨rfl, h, g⟩, rfl⟩)
theorem k_F_wall (hR : xc_R S σ) (hS : am_okS S) {t b : Int32} : xk_M (xc G) 3 y_F_wall [.ref (xk_wA (xc G) 0), .int t, .int b] σ (xk_pi (fun r τ => r = (am_wall S t b).1 ∧ xc_R (am_wall S t b).2 τ)) := by
  obtain ⟨r1, r2, r3, r4, r5, r6, r7, r8⟩ := hR
  have hp0 : 0 < 2 := by decide
  have no : ∀ K : xk_K, xk_E K c_F_wall 3 → xk_H K (xc G) c_F_wall 3 RF 3 (some .boolean) (xk_pi (fun r τ => r = (am_wall S t b).1 ∧ xc_R (am_wall S t b).2 τ)) → (aBg S = true ∨ ¬ am_has 64 t ∨ am_taken (aP S) t.toNatClampNeg (aN S) = true) → xk_X K (xk_vw (xc G)) σ 25 [(0, .ref (xk_wA (xc G) 0)), (1, .int t), (2, .int b)] [] := by
    intro K hE hc h
    refine x_iconst (nI 0) hE d_F_wall_25 (by decide) ?_
    have e : am_wall S t b = (nI 0, S) := by unfold am_wall; rw [if_pos h]
    exact x_zret hc d_F_wall_26 (by first | exact Or.inl rfl | exact Or.inr rfl | assumption | omega) (by rw [e]; exact ⟨rfl, r1, r2, r3, r4, r5, r6, r7, r8⟩)
  refine xk_enter (by decide) (Nat.le_of_ble_eq_true rfl) (fun K hE hc => ?_)
  show xk_X K _ _ 0 [(0, _), (1, _), (2, _)] []
  refine x_aload_n hE d_F_wall_0 0 rfl ?_
  refine gf_F_39 hc d_F_wall_1 r3 ?_
  cases hbg : aBg S with
  | true =>
    first | refine xn_if_ne hE d_F_wall_4 (fun z => ?_) (fun z => ?_) | refine x_if_ne hE d_F_wall_4 (fun z => ?_) (fun z => ?_)
    · exact no K hE hc (Or.inl hbg)
    · exact absurd z (by decide)
  | false =>
    first | refine xn_if_ne hE d_F_wall_4 (fun z => ?_) (fun z => ?_) | refine x_if_ne hE d_F_wall_4 (fun z => ?_) (fun z => ?_)
    · exact absurd rfl z
    · skip
      refine x_iload_n hE d_F_wall_7 1 rfl ?_
      refine ca_F_43 hc d_F_wall_8 (k_F_isTile) (fun r τ hq => ?_)
      obtain ⟨ht, rfl⟩ := hq
      rcases ht with ⟨rfl, ht⟩ | ⟨rfl, ht⟩
      · skip
        first | refine xn_if_eq hE d_F_wall_11 (fun z => ?_) (fun z => ?_) | refine x_if_eq hE d_F_wall_11 (fun z => ?_) (fun z => ?_)
        · exact absurd z (by decide)
        · skip
          obtain ⟨j, hj, rfl⟩ := am_has_of (by decide) ht
          have ej : (nI j).toNatClampNeg = j := nI_clamp (by omega)
          refine x_aload_n hE d_F_wall_14 0 rfl ?_
          refine gf_F_28 hc d_F_wall_15 ?_
          refine x_iload_n hE d_F_wall_18 1 rfl ?_
          refine ca_F_47 hc hp0 d_F_wall_19 (k_P_isTaken (p := 0) hp0 hS.1 r6 hS.2.2.2.2 hj) (fun r τ hq => ?_)
          obtain ⟨rfl, rfl⟩ := hq
          cases hta : am_taken (aP S) j (aN S) with
          | true =>
            first | refine xn_if_eq hE d_F_wall_22 (fun z => ?_) (fun z => ?_) | refine x_if_eq hE d_F_wall_22 (fun z => ?_) (fun z => ?_)
            · exact absurd z (by decide)
            · exact no K hE hc (Or.inr (Or.inr (by rw [ej]; exact hta)))
          | false =>
            first | refine xn_if_eq hE d_F_wall_22 (fun z => ?_) (fun z => ?_) | refine x_if_eq hE d_F_wall_22 (fun z => ?_) (fun z => ?_)
            · skip
              refine x_aload_n hE d_F_wall_27 0 rfl ?_
              refine gf_F_10 hc d_F_wall_28 ?_
              refine x_iload_n hE d_F_wall_31 1 rfl ?_
              refine x_iload_n hE d_F_wall_32 2 rfl ?_
              refine ca_F_50 hc d_F_wall_33 (k_G_build r1 hj) (fun τ hq => ?_)
              obtain ⟨w1, w2⟩ := hq
              refine x_iconst (nI 1) hE d_F_wall_36 (by decide) ?_
              have e : am_wall S (nI j) b = (nI 1, (am_set (aW S) j (decide (b ≠ 0)), S.2)) := by
                unfold am_wall
                rw [if_neg (by rw [ej, hta, hbg]; simp [ht]), ej]
              refine x_zret hc d_F_wall_37 (Or.inr rfl) ?_
              rw [e]
              refine ⟨rfl, w1, ?_⟩
              rw [w2]
              unfold xc_L xc_pl xc_at at *
              rw [w2]
              exact ⟨r2, r3, r4, r5, r6, r7, r8⟩
            · exact absurd rfl z
      · skip
        first | refine xn_if_eq hE d_F_wall_11 (fun z => ?_) (fun z => ?_) | refine x_if_eq hE d_F_wall_11 (fun z => ?_) (fun z => ?_)
        · exact no K hE hc (Or.inr (Or.inl ht))
        · exact absurd rfl z
theorem k_F_begin (hR : xc_R S σ) (hS : am_okS S) : xk_M (xc G) 0 y_F_begin [.ref (xk_wA (xc G) 0)] σ (xk_pi (fun r τ => r = (am_begin S).1 ∧ xc_R (am_begin S).2 τ)) := by
  have hR0 := hR
  obtain ⟨r1, r2, r3, r4, r5, r6, r7, r8⟩ := hR
  have hp0 : 0 < 2 := by decide
  refine xk_enter (by decide) (Nat.le_of_ble_eq_true rfl) (fun K hE hc => ?_)
  show xk_X K _ _ 0 [(0, _)] []
  refine x_aload_n hE d_F_begin_0 0 rfl ?_
  refine gf_F_39 hc d_F_begin_1 r3 ?_
  cases hbg : aBg S with
  | true =>
    first | refine xn_if_eq hE d_F_begin_4 (fun z => ?_) (fun z => ?_) | refine x_if_eq hE d_F_begin_4 (fun z => ?_) (fun z => ?_)
    · exact absurd z (by decide)
    · skip
      refine x_bipush (-3) hE d_F_begin_7 (by decide) ?_
      have e : am_begin S = (-3, S) := by unfold am_begin; rw [if_pos hbg]
      exact x_iret hc d_F_begin_9 (by rw [e]; exact ⟨rfl, hR0⟩)
  | false =>
    first | refine xn_if_eq hE d_F_begin_4 (fun z => ?_) (fun z => ?_) | refine x_if_eq hE d_F_begin_4 (fun z => ?_) (fun z => ?_)
    · skip
      refine x_aload_n hE d_F_begin_10 0 rfl ?_
      refine x_iconst (nI 1) hE d_F_begin_11 (by decide) ?_
      refine pf_F_39 hc d_F_begin_12 (by first | exact Or.inl rfl | exact Or.inr rfl | assumption) ?_
      refine x_aload_n hE d_F_begin_15 0 rfl ?_
      refine gf_F_28 hc d_F_begin_16 ?_
      refine gf_F_57 hc (p := 0) hp0 d_F_begin_19 (show _ = nI (aN S) by rw [xk_up_o (by decide)]; exact r6.1) ?_
      have e : am_begin S = (nI (aN S), (aW S, aN S, aSd S, aSt S, true, S.2.2.2.2.2)) := by unfold am_begin; rw [if_neg (by rw [hbg]; simp)]
      refine x_iret hc d_F_begin_22 ?_
      rw [e]
      refine ⟨rfl, r1, ?_, ?_, fun i hi => ?_, r5.mv (fun k h1 h2 => xk_up_o (by omega)), r6.mv hS.1 (fun k h => xk_up_o (by omega)), ?_, fun p hp u hu => ?_⟩
      · rw [xk_up_s, if_neg (by decide)]; exact r2
      · rw [xk_up_s, if_pos rfl]; rfl
      · rw [xk_up_o (by decide)]; exact r4 i hi
      · rw [xk_up_o (by decide)]; exact r7
      · rw [xk_up_o (by omega)]; exact r8 p hp u hu
    · exact absurd rfl z
end XF
