/-! FIELD: placing, commands, reads -/
theorem xu_settle_o {σ : xk_St} {k i : Nat} {s t : Int32} (h : i ≠ k) : (xu_settle σ k s t).1 i = σ.1 i := by simp only [xu_settle]; rw [xu_restart_o h, xk_up_o h, xk_up_o h]
theorem xu_settle_at {σ : xk_St} {k jt : Nat} {s : Int32} : xc_at (xu_settle σ k s (nI jt)) k (20, jt, 0, 0, 0, []) ∧ (xu_settle σ k s (nI jt)).1 k 0 = s ∧ (xu_settle σ k s (nI jt)).1 k 1 = nI jt := by
  obtain ⟨e1, e2⟩ := xu_restart_at (σ := xk_up (xk_up σ k 0 s) k 1 (nI jt)) (k := k) (t := jt) (by rw [xk_up_s, if_pos rfl])
  refine ⟨e1, ?_, ?_⟩
  · show (xu_restart _ k).1 k 0 = s
    rw [e2.2.2.1, xk_up_s, xk_up_s]; rfl
  · show (xu_restart _ k).1 k 1 = nI jt
    rw [e2.2.2.2, xk_up_s]; rfl
section XF2
variable {G : xk_D} {σ : xk_St} {S : am_S}
theorem k_F_unit (hR : xc_R S σ) (hS : am_okS S) {s t : Int32} : xk_M (xc G) 5 y_F_unit [.ref (xk_wA (xc G) 0), .int s, .int t] σ (xk_pi (fun r τ => r = (am_unit S s t).1 ∧ xc_R (am_unit S s t).2 τ)) := by
  have hR0 := hR
  have hn8 := hS.1
  obtain ⟨r1, r2, r3, r4, r5, r6, r7, r8⟩ := hR
  have hp0 : 0 < 2 := by decide
  have hp1 : 1 < 2 := by decide
  have no : ∀ K : xk_K, xk_E K c_F_unit 3 → xk_H K (xc G) c_F_unit 3 RF 5 (some .int) (xk_pi (fun r τ => r = (am_unit S s t).1 ∧ xc_R (am_unit S s t).2 τ)) → aBg S = false → (¬ am_has 2 s ∨ ¬ am_has 64 t ∨ aW S t.toNatClampNeg = true ∨ am_taken (aP S) t.toNatClampNeg (aN S) = true) → xk_X K (xk_vw (xc G)) σ 48 [(0, .ref (xk_wA (xc G) 0)), (1, .int s), (2, .int t)] [] := by
    intro K hE hc hbg h
    refine x_iconst (-1) hE d_F_unit_48 (by decide) ?_
    have e : am_unit S s t = (-1, S) := by unfold am_unit; rw [if_neg (by rw [hbg]; simp), if_pos h]
    exact x_iret hc d_F_unit_49 (by rw [e]; exact ⟨rfl, hR0⟩)
  refine xk_enter (by decide) (Nat.le_of_ble_eq_true rfl) (fun K hE hc => ?_)
  show xk_X K _ _ 0 [(0, _), (1, _), (2, _)] []
  refine x_aload_n hE d_F_unit_0 0 rfl ?_
  refine gf_F_39 hc d_F_unit_1 r3 ?_
  cases hbg : aBg S with
  | true =>
    first | refine xn_if_eq hE d_F_unit_4 (fun z => ?_) (fun z => ?_) | refine x_if_eq hE d_F_unit_4 (fun z => ?_) (fun z => ?_)
    · exact absurd z (by decide)
    · skip
      refine x_bipush (-3) hE d_F_unit_7 (by decide) ?_
      have e : am_unit S s t = (-3, S) := by unfold am_unit; rw [if_pos hbg]
      exact x_iret hc d_F_unit_9 (by rw [e]; exact ⟨rfl, hR0⟩)
  | false =>
    first | refine xn_if_eq hE d_F_unit_4 (fun z => ?_) (fun z => ?_) | refine x_if_eq hE d_F_unit_4 (fun z => ?_) (fun z => ?_)
    · skip
      refine x_iload_n hE d_F_unit_10 1 rfl ?_
      refine x_if_lt hE d_F_unit_11 (fun h1 => ?_) (fun h1 => ?_)
      · exact no K hE hc hbg (Or.inl (fun q => q.1 h1))
      · skip
        refine x_iload_n hE d_F_unit_14 1 rfl ?_
        refine x_iconst (nI 2) hE d_F_unit_15 (by decide) ?_
        refine x_icmp_ge hE d_F_unit_16 (fun h2 => ?_) (fun h2 => ?_)
        · exact no K hE hc hbg (Or.inl (fun q => q.2 h2))
        · skip
          have hs : am_has 2 s := ⟨h1, h2⟩
          refine x_iload_n hE d_F_unit_19 2 rfl ?_
          refine ca_F_43 hc d_F_unit_20 (k_F_isTile) (fun r τ hq => ?_)
          obtain ⟨ht, rfl⟩ := hq
          rcases ht with ⟨rfl, ht⟩ | ⟨rfl, ht⟩
          · skip
            first | refine xn_if_eq hE d_F_unit_23 (fun z => ?_) (fun z => ?_) | refine x_if_eq hE d_F_unit_23 (fun z => ?_) (fun z => ?_)
            · exact absurd z (by decide)
            · skip
              obtain ⟨js, hjs, rfl⟩ := am_has_of (by decide) hs
              obtain ⟨j, hj, rfl⟩ := am_has_of (by decide) ht
              have ej : (nI j).toNatClampNeg = j := nI_clamp (by omega)
              have ejs : (nI js).toNatClampNeg = js := nI_clamp (by omega)
              refine x_aload_n hE d_F_unit_26 0 rfl ?_
              refine gf_F_10 hc d_F_unit_27 ?_
              refine x_iload_n hE d_F_unit_30 2 rfl ?_
              refine ca_F_54 hc d_F_unit_31 (k_G_isWall r1 hj) (fun r τ hq => ?_)
              obtain ⟨rfl, rfl⟩ := hq
              cases hw : aW S j with
              | true =>
                first | refine xn_if_ne hE d_F_unit_34 (fun z => ?_) (fun z => ?_) | refine x_if_ne hE d_F_unit_34 (fun z => ?_) (fun z => ?_)
                · exact no K hE hc hbg (Or.inr (Or.inr (Or.inl (by rw [ej]; exact hw))))
                · exact absurd z (by decide)
              | false =>
                first | refine xn_if_ne hE d_F_unit_34 (fun z => ?_) (fun z => ?_) | refine x_if_ne hE d_F_unit_34 (fun z => ?_) (fun z => ?_)
                · exact absurd rfl z
                · skip
                  refine x_aload_n hE d_F_unit_37 0 rfl ?_
                  refine gf_F_28 hc d_F_unit_38 ?_
                  refine x_iload_n hE d_F_unit_41 2 rfl ?_
                  refine ca_F_47 hc hp0 d_F_unit_42 (k_P_isTaken (p := 0) hp0 hS.1 r6 hS.2.2.2.2 hj) (fun r τ hq => ?_)
                  obtain ⟨rfl, rfl⟩ := hq
                  cases hta : am_taken (aP S) j (aN S) with
                  | true =>
                    first | refine xn_if_eq hE d_F_unit_45 (fun z => ?_) (fun z => ?_) | refine x_if_eq hE d_F_unit_45 (fun z => ?_) (fun z => ?_)
                    · exact absurd z (by decide)
                    · exact no K hE hc hbg (Or.inr (Or.inr (Or.inr (by rw [ej]; exact hta))))
                  | false =>
                    first | refine xn_if_eq hE d_F_unit_45 (fun z => ?_) (fun z => ?_) | refine x_if_eq hE d_F_unit_45 (fun z => ?_) (fun z => ?_)
                    · skip
                      have hneg : ¬ (¬ am_has 2 (nI js) ∨ ¬ am_has 64 (nI j) ∨ aW S (nI j).toNatClampNeg = true ∨ am_taken (aP S) (nI j).toNatClampNeg (aN S) = true) := by
                        rw [ej, hw, hta]
                        intro q
                        rcases q with q | q | q | q
                        · exact q hs
                        · exact q ht
                        · cases q
                        · cases q
                      refine x_aload_n hE d_F_unit_50 0 rfl ?_
                      refine gf_F_28 hc d_F_unit_51 ?_
                      refine gf_F_57 hc (p := 0) hp0 d_F_unit_54 r6.1 ?_
                      refine x_bipush (nI 8) hE d_F_unit_57 (by decide) ?_
                      first | refine xn_icmp_ne hE d_F_unit_59 (fun h8 => ?_) (fun h8 => ?_) | refine x_icmp_ne hE d_F_unit_59 (fun h8 => ?_) (fun h8 => ?_)
                      · skip
                        have hn7 : aN S < 8 := by omega
                        refine x_aload_n hE d_F_unit_65 0 rfl ?_
                        refine gf_F_32 hc d_F_unit_66 ?_
                        refine x_iload_n hE d_F_unit_69 1 rfl ?_
                        refine x_iload_n hE d_F_unit_70 2 rfl ?_
                        refine ca_F_61 hc hp1 d_F_unit_71 (k_P_place (p := 1) hp1 hn7 r7) (fun r τ hq => ?_)
                        obtain ⟨rfl, rfl⟩ := hq
                        refine x_pop hE d_F_unit_74 rfl ?_
                        refine x_aload_n hE d_F_unit_75 0 rfl ?_
                        refine gf_F_28 hc d_F_unit_76 ?_
                        refine x_iload_n hE d_F_unit_79 1 rfl ?_
                        refine x_iload_n hE d_F_unit_80 2 rfl ?_
                        have c1 : (xk_up (xu_settle σ (17 + 8 * 1 + aN S) (nI js) (nI j)) (10 + 3 * 1) 3 (nI (aN S + 1))).1 (10 + 3 * 0) 3 = nI (aN S) := by
                          rw [xk_up_o (by omega), xu_settle_o (by omega)]
                          exact r6.1
                        refine ca_F_61 hc hp0 d_F_unit_81 (k_P_place (p := 0) hp0 hn7 c1) (fun r τ hq => ?_)
                        obtain ⟨rfl, rfl⟩ := hq
                        have e : am_unit S (nI js) (nI j) = (nI (aN S), (aW S, aN S + 1, am_set (aSd S) (aN S) js, am_set (aSt S) (aN S) j, aBg S, aPl S, aNm S, aCn S, aL S, am_set (aP S) (aN S) (20, j, 0, 0, 0, []))) := by
                          unfold am_unit
                          rw [if_neg (by rw [hbg]; simp), if_neg hneg, if_neg h8, ej, ejs]
                        refine x_iret hc d_F_unit_84 ?_
                        rw [e]
                        obtain ⟨a1, a2, a3⟩ := xu_settle_at (σ := σ) (k := 17 + 8 * 1 + aN S) (jt := j) (s := nI js)
                        obtain ⟨b1, b2, b3⟩ := xu_settle_at (σ := xk_up (xu_settle σ (17 + 8 * 1 + aN S) (nI js) (nI j)) (10 + 3 * 1) 3 (nI (aN S + 1))) (k := 17 + 8 * 0 + aN S) (jt := j) (s := nI js)
                        have ho : ∀ i, i ≠ 10 → i ≠ 13 → i ≠ 17 + aN S → i ≠ 25 + aN S → (xk_up (xu_settle (xk_up (xu_settle σ (17 + 8 * 1 + aN S) (nI js) (nI j)) (10 + 3 * 1) 3 (nI (aN S + 1))) (17 + 8 * 0 + aN S) (nI js) (nI j)) (10 + 3 * 0) 3 (nI (aN S + 1))).1 i = σ.1 i := by
                          intro i i1 i2 i3 i4
                          rw [xk_up_o (by omega), xu_settle_o (by omega), xk_up_o (by omega), xu_settle_o (by omega)]
                        refine ⟨rfl, r1, ?_, ?_, fun i hi => ?_, r5.mv (fun k h1 h2 => ho k (by omega) (by omega) (by omega) (by omega)), ⟨?_, fun u hu => ?_⟩, ?_, fun p hp u hu => ?_⟩
                        · rw [ho 0 (by omega) (by omega) (by omega) (by omega)]; exact r2
                        · rw [ho 0 (by omega) (by omega) (by omega) (by omega)]; exact r3
                        · rw [ho 16 (by omega) (by omega) (by omega) (by omega)]; exact r4 i hi
                        · rw [xk_up_s, if_pos rfl]
                        · have hu : u < aN S + 1 := hu
                          by_cases e1 : u = aN S
                          · subst e1
                            show xc_at _ _ (am_set (aP S) (aN S) (20, j, 0, 0, 0, []) (aN S))
                            rw [am_set_s]
                            unfold xc_at at b1 ⊢
                            rw [xk_up_o (by omega), xk_up_o (by omega)]
                            exact b1
                          · show xc_at _ _ (am_set (aP S) (aN S) (20, j, 0, 0, 0, []) u)
                            rw [am_set_n e1]
                            have h5 := r6.2 u (by omega)
                            unfold xc_at at h5 ⊢
                            rw [ho _ (by omega) (by omega) (by omega) (by omega), ho _ (by omega) (by omega) (by omega) (by omega)]
                            exact h5
                        · rw [xk_up_o (by omega), xu_settle_o (by omega), xk_up_s, if_pos rfl]
                        · have hu : u < aN S + 1 := hu
                          show _ = nI (am_set (aSd S) (aN S) js u) ∧ _ = nI (am_set (aSt S) (aN S) j u)
                          by_cases e1 : u = aN S
                          · subst e1
                            rw [am_set_s, am_set_s]
                            have hpc : p = 0 ∨ p = 1 := by omega
                            rcases hpc with rfl | rfl
                            · rw [xk_up_o (by omega)]
                              exact ⟨b2, b3⟩
                            · rw [xk_up_o (by omega), xu_settle_o (by omega), xk_up_o (by omega)]
                              exact ⟨a2, a3⟩
                          · rw [am_set_n e1, am_set_n e1, ho _ (by omega) (by omega) (by omega) (by omega)]
                            exact r8 p hp u (by omega)
                      · skip
                        refine x_bipush (-2) hE d_F_unit_62 (by decide) ?_
                        have e : am_unit S (nI js) (nI j) = (-2, S) := by
                          unfold am_unit
                          rw [if_neg (by rw [hbg]; simp), if_neg hneg, if_pos h8]
                        exact x_iret hc d_F_unit_64 (by rw [e]; exact ⟨rfl, hR0⟩)
                    · exact absurd rfl z
          · skip
            first | refine xn_if_eq hE d_F_unit_23 (fun z => ?_) (fun z => ?_) | refine x_if_eq hE d_F_unit_23 (fun z => ?_) (fun z => ?_)
            · exact no K hE hc hbg (Or.inr (Or.inl ht))
            · exact absurd rfl z
    · exact absurd rfl z
theorem k_F_isKindWithNumber (hR : xc_R S σ) {u k m : Int32} : xk_M (xc G) 1 y_F_isKindWithNumber [.ref (xk_wA (xc G) 0), .int u, .int k, .int m] σ (xk_pi (fun r τ => ((r = nI 1 ∧ am_kind (aN S) u k m) ∨ (r = nI 0 ∧ ¬ am_kind (aN S) u k m)) ∧ σ = τ)) := by
  obtain ⟨r1, r2, r3, r4, r5, r6, r7, r8⟩ := hR
  have hp0 : 0 < 2 := by decide
  have n01 : ¬ nI 1 = nI 0 := by decide
  have n02 : ¬ nI 2 = nI 0 := by decide
  have n12 : ¬ nI 2 = nI 1 := by decide
  have n21 : ¬ nI 1 = nI 2 := by decide
  refine xk_enter (by decide) (Nat.le_of_ble_eq_true rfl) (fun K hE hc => ?_)
  show xk_X K _ _ 0 [(0, _), (1, _), (2, _), (3, _)] []
  refine x_iload_n hE d_F_isKindWithNumber_0 2 rfl ?_
  by_cases k0 : k = nI 0
  · subst k0
    refine x_tabIn hE d_F_isKindWithNumber_1 (x := nI 0) (off := 27) (tgt := 28) (by decide) (by decide) (by decide) (by decide) ?_
    refine x_iconst (nI 1) hE d_F_isKindWithNumber_28 (by decide) ?_
    exact x_zret hc d_F_isKindWithNumber_29 (by first | exact Or.inl rfl | exact Or.inr rfl | assumption | omega) (⟨Or.inl ⟨rfl, Or.inl rfl⟩, rfl⟩)
  · by_cases k1 : k = nI 1
    · subst k1
      refine x_tabIn hE d_F_isKindWithNumber_1 (x := nI 1) (off := 29) (tgt := 30) (by decide) (by decide) (by decide) (by decide) ?_
      refine x_iload_n hE d_F_isKindWithNumber_30 3 rfl ?_
      refine ca_F_43 hc d_F_isKindWithNumber_31 (k_F_isTile) (fun r τ hq => ?_)
      obtain ⟨ht, rfl⟩ := hq
      rcases ht with ⟨rfl, ht⟩ | ⟨rfl, ht⟩
      · skip
        exact x_zret hc d_F_isKindWithNumber_34 (by first | exact Or.inl rfl | exact Or.inr rfl | assumption | omega) (⟨Or.inl ⟨rfl, Or.inr (Or.inl ⟨rfl, ht⟩)⟩, rfl⟩)
      · skip
        refine x_zret hc d_F_isKindWithNumber_34 (Or.inl rfl) ⟨Or.inr ⟨rfl, fun q => ?_⟩, rfl⟩
        rcases q with q | q | q
        · exact n01 q
        · exact ht q.2
        · exact n21 q.1
    · by_cases k2 : k = nI 2
      · subst k2
        refine x_tabIn hE d_F_isKindWithNumber_1 (x := nI 2) (off := 34) (tgt := 35) (by decide) (by decide) (by decide) (by decide) ?_
        have hno : ¬ (am_has (aN S) m ∧ ¬ m = u) → ¬ am_kind (aN S) u (nI 2) m := fun z q => by
          rcases q with q | q | q
          · exact n02 q
          · exact n12 q.1
          · exact z q.2
        refine x_aload_n hE d_F_isKindWithNumber_35 0 rfl ?_
        refine gf_F_28 hc d_F_isKindWithNumber_36 ?_
        refine x_iload_n hE d_F_isKindWithNumber_39 3 rfl ?_
        refine ca_F_65 hc hp0 d_F_isKindWithNumber_40 (k_P_has (p := 0) hp0 r6.1) (fun r τ hq => ?_)
        obtain ⟨ht, rfl⟩ := hq
        rcases ht with ⟨rfl, ht⟩ | ⟨rfl, ht⟩
        · skip
          first | refine xn_if_eq hE d_F_isKindWithNumber_43 (fun z => ?_) (fun z => ?_) | refine x_if_eq hE d_F_isKindWithNumber_43 (fun z => ?_) (fun z => ?_)
          · exact absurd z (by decide)
          · skip
            refine x_iload_n hE d_F_isKindWithNumber_46 3 rfl ?_
            refine x_iload_n hE d_F_isKindWithNumber_47 1 rfl ?_
            refine x_icmp_eq hE d_F_isKindWithNumber_48 (fun g => ?_) (fun g => ?_)
            · skip
              refine x_iconst (nI 0) hE d_F_isKindWithNumber_55 (by decide) ?_
              exact x_zret hc d_F_isKindWithNumber_56 (by first | exact Or.inl rfl | exact Or.inr rfl | assumption | omega) (⟨Or.inr ⟨rfl, hno (fun q => q.2 g)⟩, rfl⟩)
            · skip
              refine x_iconst (nI 1) hE d_F_isKindWithNumber_51 (by decide) ?_
              refine x_goto hE d_F_isKindWithNumber_52 ?_
              exact x_zret hc d_F_isKindWithNumber_56 (by first | exact Or.inl rfl | exact Or.inr rfl | assumption | omega) (⟨Or.inl ⟨rfl, Or.inr (Or.inr ⟨rfl, ht, g⟩)⟩, rfl⟩)
        · skip
          first | refine xn_if_eq hE d_F_isKindWithNumber_43 (fun z => ?_) (fun z => ?_) | refine x_if_eq hE d_F_isKindWithNumber_43 (fun z => ?_) (fun z => ?_)
          · skip
            refine x_iconst (nI 0) hE d_F_isKindWithNumber_55 (by decide) ?_
            exact x_zret hc d_F_isKindWithNumber_56 (by first | exact Or.inl rfl | exact Or.inr rfl | assumption | omega) (⟨Or.inr ⟨rfl, hno (fun q => ht q.1)⟩, rfl⟩)
          · exact absurd rfl z
      · have d0 : ¬ k.toInt = 0 := lv_neT k0 (by decide)
        have d1 : ¬ k.toInt = 1 := lv_neT k1 (by decide)
        have d2 : ¬ k.toInt = 2 := lv_neT k2 (by decide)
        refine x_tabOut hE d_F_isKindWithNumber_1 (x := k) (tgt := 57) (by omega) (by decide) ?_
        refine x_iconst (nI 0) hE d_F_isKindWithNumber_57 (by decide) ?_
        refine x_zret hc d_F_isKindWithNumber_58 (Or.inl rfl) ⟨Or.inr ⟨rfl, fun q => ?_⟩, rfl⟩
        rcases q with q | q | q
        · exact k0 q
        · exact k1 q.1
        · exact k2 q.1
theorem k_F_command (hR : xc_R S σ) (hS : am_okS S) {t u k m : Int32} : xk_M (xc G) 2 y_F_command [.ref (xk_wA (xc G) 0), .int t, .int u, .int k, .int m] σ (xk_pi (fun r τ => r = (am_command S t u k m).1 ∧ xc_R (am_command S t u k m).2 τ)) := by
  have hR0 := hR
  have hn8 := hS.1
  have hc24 := hS.2.2.2.1.1
  obtain ⟨r1, r2, r3, r4, r5, r6, r7, r8⟩ := hR
  have hp0 : 0 < 2 := by decide
  have no : ∀ K : xk_K, xk_E K c_F_command 5 → xk_H K (xc G) c_F_command 5 RF 2 (some .int) (xk_pi (fun r τ => r = (am_command S t u k m).1 ∧ xc_R (am_command S t u k m).2 τ)) → ¬ (am_has (aN S) u ∧ am_kind (aN S) u k m) → xk_X K (xk_vw (xc G)) σ 22 [(0, .ref (xk_wA (xc G) 0)), (1, .int t), (2, .int u), (3, .int k), (4, .int m)] [] := by
    intro K hE hc h
    refine x_iconst (-1) hE d_F_command_22 (by decide) ?_
    have e : am_command S t u k m = (-1, S) := by unfold am_command; rw [if_pos h]
    exact x_iret hc d_F_command_23 (by rw [e]; exact ⟨rfl, hR0⟩)
  have early : ∀ K : xk_K, xk_E K c_F_command 5 → xk_H K (xc G) c_F_command 5 RF 2 (some .int) (xk_pi (fun r τ => r = (am_command S t u k m).1 ∧ xc_R (am_command S t u k m).2 τ)) → (am_has (aN S) u ∧ am_kind (aN S) u k m) → (aBg S = false ∨ t < nI (aPl S)) → xk_X K (xk_vw (xc G)) σ 39 [(0, .ref (xk_wA (xc G) 0)), (1, .int t), (2, .int u), (3, .int k), (4, .int m)] [] := by
    intro K hE hc h h2
    refine x_bipush (-3) hE d_F_command_39 (by decide) ?_
    have e : am_command S t u k m = (-3, S) := by unfold am_command; rw [if_neg (Classical.not_not.mpr h), if_pos h2]
    exact x_iret hc d_F_command_41 (by rw [e]; exact ⟨rfl, hR0⟩)
  refine xk_enter (by decide) (Nat.le_of_ble_eq_true rfl) (fun K hE hc => ?_)
  show xk_X K _ _ 0 [(0, _), (1, _), (2, _), (3, _), (4, _)] []
  refine x_aload_n hE d_F_command_0 0 rfl ?_
  refine gf_F_28 hc d_F_command_1 ?_
  refine x_iload_n hE d_F_command_4 2 rfl ?_
  refine ca_F_65 hc hp0 d_F_command_5 (k_P_has (p := 0) hp0 r6.1) (fun r τ hq => ?_)
  obtain ⟨ht, rfl⟩ := hq
  rcases ht with ⟨rfl, ht⟩ | ⟨rfl, ht⟩
  · skip
    first | refine xn_if_eq hE d_F_command_8 (fun z => ?_) (fun z => ?_) | refine x_if_eq hE d_F_command_8 (fun z => ?_) (fun z => ?_)
    · exact absurd z (by decide)
    · skip
      refine x_aload_n hE d_F_command_11 0 rfl ?_
      refine x_iload_n hE d_F_command_12 2 rfl ?_
      refine x_iload_n hE d_F_command_13 3 rfl ?_
      refine x_iload hE d_F_command_14 4 rfl ?_
      refine ca_F_68 hc d_F_command_16 (k_F_isKindWithNumber hR0) (fun r τ hq => ?_)
      obtain ⟨hk, rfl⟩ := hq
      rcases hk with ⟨rfl, hk⟩ | ⟨rfl, hk⟩
      · skip
        first | refine xn_if_ne hE d_F_command_19 (fun z => ?_) (fun z => ?_) | refine x_if_ne hE d_F_command_19 (fun z => ?_) (fun z => ?_)
        · skip
          refine x_aload_n hE d_F_command_24 0 rfl ?_
          refine gf_F_39 hc d_F_command_25 r3 ?_
          cases hbg : aBg S with
          | false =>
            first | refine xn_if_eq hE d_F_command_28 (fun z => ?_) (fun z => ?_) | refine x_if_eq hE d_F_command_28 (fun z => ?_) (fun z => ?_)
            · exact early K hE hc ⟨ht, hk⟩ (Or.inl hbg)
            · exact absurd rfl z
          | true =>
            first | refine xn_if_eq hE d_F_command_28 (fun z => ?_) (fun z => ?_) | refine x_if_eq hE d_F_command_28 (fun z => ?_) (fun z => ?_)
            · exact absurd z (by decide)
            · skip
              refine x_iload_n hE d_F_command_31 1 rfl ?_
              refine x_aload_n hE d_F_command_32 0 rfl ?_
              refine gf_F_72 hc d_F_command_33 r2 ?_
              refine x_icmp_ge hE d_F_command_36 (fun g => ?_) (fun g => ?_)
              · skip
                have g1 : ¬ t < nI (aPl S) := by rw [Int32.not_lt]; exact g
                refine x_aload_n hE d_F_command_42 0 rfl ?_
                refine gf_F_19 hc d_F_command_43 ?_
                refine gf_F_75 hc d_F_command_46 r5.1 ?_
                refine x_bipush (nI 24) hE d_F_command_49 (by decide) ?_
                have hneg : ¬ (aBg S = false ∨ t < nI (aPl S)) := fun q => by
                  rcases q with q | q
                  · rw [hbg] at q; cases q
                  · exact g1 q
                first | refine xn_icmp_ne hE d_F_command_51 (fun h4 => ?_) (fun h4 => ?_) | refine x_icmp_ne hE d_F_command_51 (fun h4 => ?_) (fun h4 => ?_)
                · skip
                  obtain ⟨ju, hju, rfl⟩ := am_has_of (by omega) ht
                  obtain ⟨kd, mm, k1, rfl, k3, k4, k5⟩ := am_kind_of hn8 hk
                  refine x_aload_n hE d_F_command_57 0 rfl ?_
                  refine gf_F_19 hc d_F_command_58 ?_
                  refine x_iload_n hE d_F_command_61 1 rfl ?_
                  refine x_iload_n hE d_F_command_62 2 rfl ?_
                  refine x_iload_n hE d_F_command_63 3 rfl ?_
                  refine x_iload hE d_F_command_64 4 rfl ?_
                  refine ca_F_76 hc d_F_command_66 (k_L_add r5 (show aCn S < 24 by omega) k1 k3) (fun r τ hq => ?_)
                  obtain ⟨rfl, l1, l2⟩ := hq
                  have hm : (if kd = 0 then 0 else mm) = (if kd = 0 then 0 else m.toNatClampNeg) := by
                    by_cases e2 : kd = 0
                    · rw [if_pos e2, if_pos e2]
                    · rw [if_neg e2, if_neg e2, k3 e2, nI_clamp (by omega)]
                  have e : am_command S t (nI ju) (nI kd) m = (nI (aCn S), (aW S, aN S, aSd S, aSt S, aBg S, aPl S, aNm S, aCn S + 1, am_set (aL S) (aCn S) (t, ju, kd, if kd = 0 then 0 else mm), aP S)) := by
                    unfold am_command
                    rw [if_neg (Classical.not_not.mpr ⟨ht, hk⟩), if_neg hneg, if_neg h4, nI_clamp (by omega), nI_clamp (by omega), hm]
                  refine x_iret hc d_F_command_69 ?_
                  rw [e]
                  refine ⟨rfl, r1.mv l2.1, ?_, ?_, fun i hi => ?_, l1, r6.mv hn8 (fun k h => l2.2 k (by omega)), ?_, fun p hp u hu => ?_⟩
                  · rw [l2.2 0 (by omega)]; exact r2
                  · rw [l2.2 0 (by omega)]; exact r3
                  · rw [l2.2 16 (by omega)]; exact r4 i hi
                  · rw [l2.2 13 (by omega)]; exact r7
                  · rw [l2.2 _ (by omega)]; exact r8 p hp u hu
                · skip
                  refine x_bipush (-2) hE d_F_command_54 (by decide) ?_
                  have e : am_command S t u k m = (-2, S) := by unfold am_command; rw [if_neg (Classical.not_not.mpr ⟨ht, hk⟩), if_neg hneg, if_pos h4]
                  exact x_iret hc d_F_command_56 (by rw [e]; exact ⟨rfl, hR0⟩)
              · exact early K hE hc ⟨ht, hk⟩ (Or.inr (by rw [← Int32.not_le]; exact g))
        · exact absurd z (by decide)
      · skip
        first | refine xn_if_ne hE d_F_command_19 (fun z => ?_) (fun z => ?_) | refine x_if_ne hE d_F_command_19 (fun z => ?_) (fun z => ?_)
        · exact absurd rfl z
        · exact no K hE hc (fun q => hk q.2)
  · skip
    first | refine xn_if_eq hE d_F_command_8 (fun z => ?_) (fun z => ?_) | refine x_if_eq hE d_F_command_8 (fun z => ?_) (fun z => ?_)
    · exact no K hE hc (fun q => ht q.1)
    · exact absurd rfl z
theorem k_F_forget (hR : xc_R S σ) (hS : am_okS S) {k : Int32} : xk_M (xc G) 3 y_F_forget [.ref (xk_wA (xc G) 0), .int k] σ (xk_pi (fun r τ => r = (am_forget S k).1 ∧ xc_R (am_forget S k).2 τ)) := by
  have hR0 := hR
  have hn8 := hS.1
  have hc24 := hS.2.2.2.1.1
  obtain ⟨r1, r2, r3, r4, r5, r6, r7, r8⟩ := hR
  have no : ∀ K : xk_K, xk_E K c_F_forget 2 → xk_H K (xc G) c_F_forget 2 RF 3 (some .boolean) (xk_pi (fun r τ => r = (am_forget S k).1 ∧ xc_R (am_forget S k).2 τ)) → ¬ am_has (aCn S) k → xk_X K (xk_vw (xc G)) σ 15 [(0, .ref (xk_wA (xc G) 0)), (1, .int k)] [] := by
    intro K hE hc h
    refine x_iconst (nI 0) hE d_F_forget_15 (by decide) ?_
    have e : am_forget S k = (nI 0, S) := by unfold am_forget; rw [if_pos h]
    exact x_zret hc d_F_forget_16 (by first | exact Or.inl rfl | exact Or.inr rfl | assumption | omega) (by rw [e]; exact ⟨rfl, hR0⟩)
  refine xk_enter (by decide) (Nat.le_of_ble_eq_true rfl) (fun K hE hc => ?_)
  show xk_X K _ _ 0 [(0, _), (1, _)] []
  refine x_iload_n hE d_F_forget_0 1 rfl ?_
  refine x_if_lt hE d_F_forget_1 (fun h1 => ?_) (fun h1 => ?_)
  · exact no K hE hc (fun q => q.1 h1)
  · skip
    refine x_iload_n hE d_F_forget_4 1 rfl ?_
    refine x_aload_n hE d_F_forget_5 0 rfl ?_
    refine gf_F_19 hc d_F_forget_6 ?_
    refine gf_F_75 hc d_F_forget_9 r5.1 ?_
    refine x_icmp_lt hE d_F_forget_12 (fun h2 => ?_) (fun h2 => ?_)
    · skip
      have hk : am_has (aCn S) k := ⟨h1, by rw [Int32.not_le]; exact h2⟩
      obtain ⟨j, hj, rfl⟩ := am_has_of (by omega) hk
      refine x_aload_n hE d_F_forget_17 0 rfl ?_
      refine gf_F_19 hc d_F_forget_18 ?_
      refine x_iload_n hE d_F_forget_21 1 rfl ?_
      refine ca_F_80 hc d_F_forget_22 (k_L_remove r5 hc24 hj) (fun τ hq => ?_)
      obtain ⟨l1, l2⟩ := hq
      refine x_iconst (nI 1) hE d_F_forget_25 (by decide) ?_
      have e : am_forget S (nI j) = (nI 1, (aW S, aN S, aSd S, aSt S, aBg S, aPl S, aNm S, aCn S - 1, am_del (aL S) j, aP S)) := by
        unfold am_forget
        rw [if_neg (Classical.not_not.mpr hk), nI_clamp (by omega)]
      refine x_zret hc d_F_forget_26 (Or.inr rfl) ?_
      rw [e]
      refine ⟨rfl, r1.mv l2.1, ?_, ?_, fun i hi => ?_, l1, r6.mv hn8 (fun k h => l2.2 k (by omega)), ?_, fun p hp u hu => ?_⟩
      · rw [l2.2 0 (by omega)]; exact r2
      · rw [l2.2 0 (by omega)]; exact r3
      · rw [l2.2 16 (by omega)]; exact r4 i hi
      · rw [l2.2 13 (by omega)]; exact r7
      · rw [l2.2 _ (by omega)]; exact r8 p hp u hu
    · exact no K hE hc (fun q => q.2 (by rw [← Int32.not_lt]; exact h2))
end XF2
