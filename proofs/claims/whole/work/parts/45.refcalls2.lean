/-! THE REFERENCE: commands, running, replaying, the winner -/
section XM6
variable {G : xk_D} {σ : xk_St} {S : am_S}
theorem k_M_command (hR : xm_R S σ) (hS : am_okS S) {t u k m : Int32} : xk_M (xm G) 1 y_M_command [.ref (xk_wA (xm G) 0), .int t, .int u, .int k, .int m] σ (xk_pi (fun r τ => r = (am_command S t u k m).1 ∧ xm_R (am_command S t u k m).2 τ)) := by
  have hR0 := hR
  have hn8 := hS.1
  have hc24 := hS.2.2.2.1.1
  obtain ⟨r1, r2, r3, r4, r5, r6, r7, r8⟩ := hR
  have n01 : ¬ nI 1 = nI 0 := by decide
  have n02 : ¬ nI 2 = nI 0 := by decide
  have n12 : ¬ nI 2 = nI 1 := by decide
  have n21 : ¬ nI 1 = nI 2 := by decide
  refine xk_enter (by decide) (Nat.le_of_ble_eq_true rfl) (fun K hE hc => ?_)
  show xk_X K _ _ 0 [(0, _), (1, _), (2, _), (3, _), (4, _)] []
  have fail : ¬ (am_has (aN S) u ∧ am_kind (aN S) u k m) → ∀ v5 : Int32, xk_X K (xk_vw (xm G)) σ 68 [(5, .int v5), (0, .ref (xk_wA (xm G) 0)), (1, .int t), (2, .int u), (3, .int k), (4, .int m)] [] := by
    intro h v5
    refine x_iconst (nI 0) hE d_M_command_68 (by decide) ?_
    refine x_istore [(5, _), (0, _), (1, _), (2, _), (3, _), (4, _)] hE d_M_command_69 (by decide) rfl ?_
    refine x_iload hE d_M_command_71 0 rfl ?_
    first | refine xn_if_ne hE d_M_command_73 (fun z => ?_) (fun z => ?_) | refine x_if_ne hE d_M_command_73 (fun z => ?_) (fun z => ?_)
    · exact absurd rfl z
    · skip
      refine x_iconst (-1) hE d_M_command_76 (by decide) ?_
      have e : am_command S t u k m = (-1, S) := by unfold am_command; rw [if_pos h]
      exact x_iret hc d_M_command_77 (by rw [e]; exact ⟨rfl, hR0⟩)
  have fail0 : ¬ (am_has (aN S) u ∧ am_kind (aN S) u k m) → xk_X K (xk_vw (xm G)) σ 21 [(0, .ref (xk_wA (xm G) 0)), (1, .int t), (2, .int u), (3, .int k), (4, .int m)] [] := by
    intro h
    refine x_iconst (nI 0) hE d_M_command_21 (by decide) ?_
    refine x_istore [(5, _), (0, _), (1, _), (2, _), (3, _), (4, _)] hE d_M_command_22 (by decide) rfl ?_
    refine x_iload hE d_M_command_24 0 rfl ?_
    first | refine xn_if_eq hE d_M_command_26 (fun z => ?_) (fun z => ?_) | refine x_if_eq hE d_M_command_26 (fun z => ?_) (fun z => ?_)
    · exact fail h _
    · exact absurd rfl z
  have early : (am_has (aN S) u ∧ am_kind (aN S) u k m) → (aBg S = false ∨ t < nI (aPl S)) → ∀ v5 : Int32, xk_X K (xk_vw (xm G)) σ 93 [(5, .int v5), (0, .ref (xk_wA (xm G) 0)), (1, .int t), (2, .int u), (3, .int k), (4, .int m)] [] := by
    intro h h2 v5
    refine x_bipush (-3) hE d_M_command_93 (by decide) ?_
    have e : am_command S t u k m = (-3, S) := by unfold am_command; rw [if_neg (Classical.not_not.mpr h), if_pos h2]
    exact x_iret hc d_M_command_95 (by rw [e]; exact ⟨rfl, hR0⟩)
  have good : (am_has (aN S) u ∧ am_kind (aN S) u k m) → ∀ v5 : Int32, xk_X K (xk_vw (xm G)) σ 64 [(5, .int v5), (0, .ref (xk_wA (xm G) 0)), (1, .int t), (2, .int u), (3, .int k), (4, .int m)] [] := by
    intro hg v5
    refine x_iconst (nI 1) hE d_M_command_64 (by decide) ?_
    refine x_goto hE d_M_command_65 ?_
    refine x_istore [(5, _), (0, _), (1, _), (2, _), (3, _), (4, _)] hE d_M_command_69 (by decide) rfl ?_
    refine x_iload hE d_M_command_71 0 rfl ?_
    first | refine xn_if_ne hE d_M_command_73 (fun z => ?_) (fun z => ?_) | refine x_if_ne hE d_M_command_73 (fun z => ?_) (fun z => ?_)
    · skip
      refine x_aload_n hE d_M_command_78 1 rfl ?_
      refine gf_M_93 hc d_M_command_79 r2 ?_
      cases hbg : aBg S with
      | false =>
        first | refine xn_if_eq hE d_M_command_82 (fun y => ?_) (fun y => ?_) | refine x_if_eq hE d_M_command_82 (fun y => ?_) (fun y => ?_)
        · exact early hg (Or.inl hbg) _
        · exact absurd rfl y
      | true =>
        first | refine xn_if_eq hE d_M_command_82 (fun y => ?_) (fun y => ?_) | refine x_if_eq hE d_M_command_82 (fun y => ?_) (fun y => ?_)
        · exact absurd y (by decide)
        · skip
          refine x_iload_n hE d_M_command_85 2 rfl ?_
          refine x_aload_n hE d_M_command_86 1 rfl ?_
          refine gf_M_107 hc d_M_command_87 r3 ?_
          refine x_icmp_ge hE d_M_command_90 (fun g => ?_) (fun g => ?_)
          · skip
            have g1 : ¬ t < nI (aPl S) := by rw [Int32.not_lt]; exact g
            have hneg : ¬ (aBg S = false ∨ t < nI (aPl S)) := fun q => by
              rcases q with q | q
              · rw [hbg] at q; cases q
              · exact g1 q
            refine x_aload_n hE d_M_command_96 1 rfl ?_
            refine gf_M_110 hc d_M_command_97 r5.1 ?_
            refine x_bipush (nI 24) hE d_M_command_100 (by decide) ?_
            first | refine xn_icmp_ne hE d_M_command_102 (fun h4 => ?_) (fun h4 => ?_) | refine x_icmp_ne hE d_M_command_102 (fun h4 => ?_) (fun h4 => ?_)
            · skip
              obtain ⟨ju, hju, rfl⟩ := am_has_of (by omega) hg.1
              obtain ⟨kd, mm, k1, rfl, k3, k4, k5⟩ := am_kind_of hn8 hg.2
              have hm : (if kd = 0 then 0 else mm) = (if kd = 0 then 0 else m.toNatClampNeg) := by
                by_cases e2 : kd = 0
                · rw [if_pos e2, if_pos e2]
                · rw [if_neg e2, if_neg e2, k3 e2, nI_clamp (by omega)]
              have e : am_command S t (nI ju) (nI kd) m = (nI (aCn S), (aW S, aN S, aSd S, aSt S, aBg S, aPl S, aNm S, aCn S + 1, am_set (aL S) (aCn S) (t, ju, kd, if kd = 0 then 0 else mm), aP S)) := by
                unfold am_command
                rw [if_neg (Classical.not_not.mpr hg), if_neg hneg, if_neg h4, nI_clamp (by omega), nI_clamp (by omega), hm]
              have rest : ∀ (v v5 : Int32), v = nI (if kd = 0 then 0 else mm) → xk_X K (xk_vw (xm G)) (xk_up (xk_up (xk_up σ 5 (aCn S) t) 6 (aCn S) (nI ju)) 7 (aCn S) (nI kd)) 156 [(5, .int v5), (0, .ref (xk_wA (xm G) 0)), (1, .int t), (2, .int (nI ju)), (3, .int (nI kd)), (4, .int m)] [.int v, .int (nI (aCn S)), .ref (xk_wA (xm G) 8)] := by
                intro v v5 hv
                refine x_iast hc rfl rfl (by omega) (by decide) d_M_command_156 ?_
                refine x_aload_n hE d_M_command_157 1 rfl ?_
                refine x_dup hE d_M_command_158 rfl ?_
                refine gf_M_110 hc d_M_command_159 (show _ = nI (aCn S) by simp (disch := omega) only [xk_up_s, xk_up_o]; exact r5.1) ?_
                refine x_iconst (nI 1) hE d_M_command_162 (by decide) ?_
                first | refine xn_iadd hE d_M_command_163 ?_ | refine x_iadd hE d_M_command_163 ?_
                refine pf_M_110 hc d_M_command_164 ?_
                refine x_aload_n hE d_M_command_167 1 rfl ?_
                refine gf_M_110 hc d_M_command_168 (by rw [xk_up_s, if_pos rfl]) ?_
                refine x_iconst (nI 1) hE d_M_command_171 (by decide) ?_
                first | refine xn_isub hE d_M_command_172 ?_ | refine x_isub hE d_M_command_172 ?_
                refine x_iret hc d_M_command_173 ?_
                rw [e]
                refine ⟨rfl, r1.mv ?_, ?_, ?_, fun i hi => ?_, ⟨?_, fun e he => ?_⟩, ⟨?_, fun u hu => ?_⟩, fun u hu => ?_, fun q u h1 h2 => ?_⟩
                · simp (disch := omega) only [xk_up_o]
                · simp (disch := omega) only [xk_up_s, xk_up_o]; exact r2
                · simp (disch := omega) only [xk_up_s, xk_up_o]; exact r3
                · simp (disch := omega) only [xk_up_s, xk_up_o]; exact r4 i hi
                · rw [xk_up_s, if_pos rfl]
                · have he : e < aCn S + 1 := he
                  simp (disch := omega) only [xk_up_s, xk_up_o]
                  show _ = (am_set (aL S) (aCn S) (t, ju, kd, if kd = 0 then 0 else mm) e).1 ∧ _ = nI (am_set (aL S) (aCn S) (t, ju, kd, if kd = 0 then 0 else mm) e).2.1 ∧ _ = nI (am_set (aL S) (aCn S) (t, ju, kd, if kd = 0 then 0 else mm) e).2.2.1 ∧ _ = nI (am_set (aL S) (aCn S) (t, ju, kd, if kd = 0 then 0 else mm) e).2.2.2
                  by_cases hec : e = aCn S
                  · subst hec
                    rw [am_set_s, if_pos rfl, if_pos rfl, if_pos rfl, if_pos rfl]
                    exact ⟨rfl, rfl, rfl, hv⟩
                  · rw [am_set_n hec, if_neg hec, if_neg hec, if_neg hec, if_neg hec]
                    exact r5.2 e (by omega)
                · simp (disch := omega) only [xk_up_s, xk_up_o]; exact r6.1
                · have h := r6.2 u hu
                  unfold xm_at at h ⊢
                  simp (disch := omega) only [xk_up_o]
                  exact h
                · simp (disch := omega) only [xk_up_o]; exact r7 u hu
                · simp (disch := omega) only [xk_up_o]; exact r8 q u h1 h2
              refine x_aload_n hE d_M_command_108 1 rfl ?_
              refine gf_M_23 hc d_M_command_109 ?_
              refine x_aload_n hE d_M_command_112 1 rfl ?_
              refine gf_M_110 hc d_M_command_113 r5.1 ?_
              refine x_iload_n hE d_M_command_116 2 rfl ?_
              refine x_iast hc rfl rfl (by omega) (by decide) d_M_command_117 ?_
              refine x_aload_n hE d_M_command_118 1 rfl ?_
              refine gf_M_26 hc d_M_command_119 ?_
              refine x_aload_n hE d_M_command_122 1 rfl ?_
              refine gf_M_110 hc d_M_command_123 (show _ = nI (aCn S) by simp (disch := omega) only [xk_up_s, xk_up_o]; exact r5.1) ?_
              refine x_iload_n hE d_M_command_126 3 rfl ?_
              refine x_iast hc rfl rfl (by omega) (by decide) d_M_command_127 ?_
              refine x_aload_n hE d_M_command_128 1 rfl ?_
              refine gf_M_29 hc d_M_command_129 ?_
              refine x_aload_n hE d_M_command_132 1 rfl ?_
              refine gf_M_110 hc d_M_command_133 (show _ = nI (aCn S) by simp (disch := omega) only [xk_up_s, xk_up_o]; exact r5.1) ?_
              refine x_iload_n hE d_M_command_136 4 rfl ?_
              refine x_iast hc rfl rfl (by omega) (by decide) d_M_command_137 ?_
              refine x_aload_n hE d_M_command_138 1 rfl ?_
              refine gf_M_32 hc d_M_command_139 ?_
              refine x_aload_n hE d_M_command_142 1 rfl ?_
              refine gf_M_110 hc d_M_command_143 (show _ = nI (aCn S) by simp (disch := omega) only [xk_up_s, xk_up_o]; exact r5.1) ?_
              refine x_iload_n hE d_M_command_146 4 rfl ?_
              first | refine xn_if_ne hE d_M_command_147 (fun w => ?_) (fun w => ?_) | refine x_if_ne hE d_M_command_147 (fun w => ?_) (fun w => ?_)
              · skip
                refine x_iload hE d_M_command_154 5 rfl ?_
                exact rest _ _ (by rw [if_neg w]; exact k3 w)
              · skip
                refine x_iconst (nI 0) hE d_M_command_150 (by decide) ?_
                refine x_goto hE d_M_command_151 ?_
                exact rest _ _ (by rw [if_pos w])
            · skip
              refine x_bipush (-2) hE d_M_command_105 (by decide) ?_
              have e : am_command S t u k m = (-2, S) := by unfold am_command; rw [if_neg (Classical.not_not.mpr hg), if_neg hneg, if_pos h4]
              exact x_iret hc d_M_command_107 (by rw [e]; exact ⟨rfl, hR0⟩)
          · exact early hg (Or.inr (by rw [← Int32.not_le]; exact g)) _
    · exact absurd z (by decide)
  refine x_aload_n hE d_M_command_0 0 rfl ?_
  refine x_iload_n hE d_M_command_1 2 rfl ?_
  refine ca_M_104 hc d_M_command_2 (k_M_isUnit r6.1) (fun r τ hq => ?_)
  obtain ⟨ht, rfl⟩ := hq
  rcases ht with ⟨rfl, ht⟩ | ⟨rfl, ht⟩
  · skip
    first | refine xn_if_eq hE d_M_command_5 (fun z => ?_) (fun z => ?_) | refine x_if_eq hE d_M_command_5 (fun z => ?_) (fun z => ?_)
    · exact absurd z (by decide)
    · skip
      refine x_iload_n hE d_M_command_8 3 rfl ?_
      refine x_if_lt hE d_M_command_9 (fun h1 => ?_) (fun h1 => ?_)
      · refine fail0 (fun q => ?_)
        rcases q.2 with q | q | q
        · rw [q] at h1; exact absurd h1 (by decide)
        · rw [q.1] at h1; exact absurd h1 (by decide)
        · rw [q.1] at h1; exact absurd h1 (by decide)
      · skip
        refine x_iload_n hE d_M_command_12 3 rfl ?_
        refine x_iconst (nI 2) hE d_M_command_13 (by decide) ?_
        refine x_icmp_gt hE d_M_command_14 (fun h2 => ?_) (fun h2 => ?_)
        · refine fail0 (fun q => ?_)
          rcases q.2 with q | q | q
          · rw [q] at h2; exact absurd h2 (by decide)
          · rw [q.1] at h2; exact absurd h2 (by decide)
          · rw [q.1] at h2; exact absurd h2 (by decide)
        · skip
          obtain ⟨kd, hkd, rfl⟩ : ∃ kd, kd ≤ 2 ∧ k = nI kd := nI_of2 (M := nI 2) (by decide) h1 (by rw [← Int32.not_lt]; exact h2)
          refine x_iconst (nI 1) hE d_M_command_17 (by decide) ?_
          refine x_goto hE d_M_command_18 ?_
          refine x_istore [(5, _), (0, _), (1, _), (2, _), (3, _), (4, _)] hE d_M_command_22 (by decide) rfl ?_
          refine x_iload hE d_M_command_24 0 rfl ?_
          first | refine xn_if_eq hE d_M_command_26 (fun y => ?_) (fun y => ?_) | refine x_if_eq hE d_M_command_26 (fun y => ?_) (fun y => ?_)
          · exact absurd y (by decide)
          · skip
            refine x_iload_n hE d_M_command_29 4 rfl ?_
            first | refine xn_if_eq hE d_M_command_30 (fun k0 => ?_) (fun k0 => ?_) | refine x_if_eq hE d_M_command_30 (fun k0 => ?_) (fun k0 => ?_)
            · subst k0
              exact good ⟨ht, Or.inl rfl⟩ _
            · skip
              refine x_iload_n hE d_M_command_33 4 rfl ?_
              refine x_iconst (nI 1) hE d_M_command_34 (by decide) ?_
              first | refine xn_icmp_ne hE d_M_command_35 (fun k1 => ?_) (fun k1 => ?_) | refine x_icmp_ne hE d_M_command_35 (fun k1 => ?_) (fun k1 => ?_)
              · skip
                have k2 : kd = 2 := by omega
                subst k2
                have hno : ¬ (am_has (aN S) m ∧ ¬ m = u) → ¬ (am_has (aN S) u ∧ am_kind (aN S) u (nI 2) m) := fun z q => by
                  rcases q.2 with q | q | q
                  · exact n02 q
                  · exact n12 q.1
                  · exact z q.2
                refine x_aload_n hE d_M_command_49 1 rfl ?_
                refine x_iload hE d_M_command_50 5 rfl ?_
                refine ca_M_104 hc d_M_command_52 (k_M_isUnit r6.1) (fun r τ hq => ?_)
                obtain ⟨hm, rfl⟩ := hq
                rcases hm with ⟨rfl, hm⟩ | ⟨rfl, hm⟩
                · skip
                  first | refine xn_if_eq hE d_M_command_55 (fun x => ?_) (fun x => ?_) | refine x_if_eq hE d_M_command_55 (fun x => ?_) (fun x => ?_)
                  · exact absurd x (by decide)
                  · skip
                    refine x_iload hE d_M_command_58 5 rfl ?_
                    refine x_iload_n hE d_M_command_60 3 rfl ?_
                    refine x_icmp_eq hE d_M_command_61 (fun w => ?_) (fun w => ?_)
                    · exact fail (hno (fun q => q.2 w)) _
                    · exact good ⟨ht, Or.inr (Or.inr ⟨rfl, hm, w⟩)⟩ _
                · skip
                  first | refine xn_if_eq hE d_M_command_55 (fun x => ?_) (fun x => ?_) | refine x_if_eq hE d_M_command_55 (fun x => ?_) (fun x => ?_)
                  · exact fail (hno (fun q => hm q.1)) _
                  · exact absurd rfl x
              · skip
                subst k1
                refine x_iload hE d_M_command_38 5 rfl ?_
                refine ca_M_97 hc d_M_command_40 (k_M_isTile) (fun r τ hq => ?_)
                obtain ⟨hm, rfl⟩ := hq
                rcases hm with ⟨rfl, hm⟩ | ⟨rfl, hm⟩
                · skip
                  first | refine xn_if_eq hE d_M_command_43 (fun x => ?_) (fun x => ?_) | refine x_if_eq hE d_M_command_43 (fun x => ?_) (fun x => ?_)
                  · exact absurd x (by decide)
                  · skip
                    refine x_goto hE d_M_command_46 ?_
                    exact good ⟨ht, Or.inr (Or.inl ⟨rfl, hm⟩)⟩ _
                · skip
                  first | refine xn_if_eq hE d_M_command_43 (fun x => ?_) (fun x => ?_) | refine x_if_eq hE d_M_command_43 (fun x => ?_) (fun x => ?_)
                  · refine fail (fun q => ?_) _
                    rcases q.2 with q | q | q
                    · exact n01 q
                    · exact hm q.2
                    · exact n21 q.1
                  · exact absurd rfl x
  · skip
    first | refine xn_if_eq hE d_M_command_5 (fun z => ?_) (fun z => ?_) | refine x_if_eq hE d_M_command_5 (fun z => ?_) (fun z => ?_)
    · exact fail0 (fun q => ht q.1)
    · exact absurd rfl z
theorem k_M_forget (hR : xm_R S σ) (hS : am_okS S) {k : Int32} : xk_M (xm G) 0 y_M_forget [.ref (xk_wA (xm G) 0), .int k] σ (xk_pi (fun r τ => r = (am_forget S k).1 ∧ xm_R (am_forget S k).2 τ)) := by
  have hR0 := hR
  have hn8 := hS.1
  have hc24 := hS.2.2.2.1.1
  obtain ⟨r1, r2, r3, r4, r5, r6, r7, r8⟩ := hR
  have no : ∀ K : xk_K, xk_E K c_M_forget 3 → xk_H K (xm G) c_M_forget 3 RM 0 (some .boolean) (xk_pi (fun r τ => r = (am_forget S k).1 ∧ xm_R (am_forget S k).2 τ)) → ¬ am_has (aCn S) k → xk_X K (xk_vw (xm G)) σ 12 [(0, .ref (xk_wA (xm G) 0)), (1, .int k)] [] := by
    intro K hE hc h
    refine x_iconst (nI 0) hE d_M_forget_12 (by decide) ?_
    have e : am_forget S k = (nI 0, S) := by unfold am_forget; rw [if_pos h]
    exact x_zret hc d_M_forget_13 (by first | exact Or.inl rfl | exact Or.inr rfl | assumption | omega) (by rw [e]; exact ⟨rfl, hR0⟩)
  refine xk_enter (by decide) (Nat.le_of_ble_eq_true rfl) (fun K hE hc => ?_)
  show xk_X K _ _ 0 [(0, _), (1, _)] []
  refine x_iload_n hE d_M_forget_0 1 rfl ?_
  refine x_if_lt hE d_M_forget_1 (fun h1 => ?_) (fun h1 => ?_)
  · exact no K hE hc (fun q => q.1 h1)
  · skip
    refine x_iload_n hE d_M_forget_4 1 rfl ?_
    refine x_aload_n hE d_M_forget_5 0 rfl ?_
    refine gf_M_110 hc d_M_forget_6 r5.1 ?_
    refine x_icmp_lt hE d_M_forget_9 (fun h2 => ?_) (fun h2 => ?_)
    · skip
      have hk : am_has (aCn S) k := ⟨h1, by rw [Int32.not_le]; exact h2⟩
      obtain ⟨j, hj, rfl⟩ := am_has_of (by omega) hk
      have e : am_forget S (nI j) = (nI 1, (aW S, aN S, aSd S, aSt S, aBg S, aPl S, aNm S, aCn S - 1, am_del (aL S) j, aP S)) := by
        unfold am_forget
        rw [if_neg (Classical.not_not.mpr hk), nI_clamp (by omega)]
      refine x_aload_n hE d_M_forget_14 0 rfl ?_
      refine x_dup hE d_M_forget_15 rfl ?_
      refine gf_M_110 hc d_M_forget_16 r5.1 ?_
      refine x_iconst (nI 1) hE d_M_forget_19 (by decide) ?_
      first | refine xn_isub hE d_M_forget_20 ?_ | refine x_isub hE d_M_forget_20 ?_
      refine pf_M_110 hc d_M_forget_21 ?_
      refine x_iload_n hE d_M_forget_24 1 rfl ?_
      refine x_istore_n [(2, _), (0, _), (1, _)] hE d_M_forget_25 rfl (by decide) rfl ?_
      refine x_lv [1, 2, 0] (lv' := [(0, _), (1, _), (2, _)]) rfl ?_
      have loop : ∀ (m i : Nat) (τ : xk_St), i + m = aCn S - 1 → j ≤ i → (∀ r, 5 ≤ r → r ≤ 8 → ∀ e, (e < i → τ.1 r e = σ.1 r (if e < j then e else e + 1)) ∧ (i ≤ e → τ.1 r e = σ.1 r e)) → τ.2 = σ.2 → (∀ r, r < 5 ∨ 8 < r → τ.1 r = (xk_up σ 0 7 (nI (aCn S - 1))).1 r) → xk_X K (xk_vw (xm G)) τ 26 [(0, .ref (xk_wA (xm G) 0)), (1, .int (nI j)), (2, .int (nI i))] [] := by
        intro m
        induction m with
        | zero =>
          intro i τ hi hji hrow h2 ho
          have hc2 : τ.1 0 7 = nI (aCn S - 1) := by rw [ho 0 (by omega), xk_up_s, if_pos rfl]
          refine x_iload_n hE d_M_forget_26 2 rfl ?_
          refine x_aload_n hE d_M_forget_27 0 rfl ?_
          refine gf_M_110 hc d_M_forget_28 hc2 ?_
          first | refine xn_icmp_ge hE d_M_forget_31 (fun h => ?_) (fun h => ?_) | refine x_icmp_ge hE d_M_forget_31 (fun h => ?_) (fun h => ?_)
          · skip
            refine x_iconst (nI 1) hE d_M_forget_96 (by decide) ?_
            refine x_zret hc d_M_forget_97 (Or.inr rfl) ?_
            rw [e]
            refine ⟨rfl, r1.mv (by rw [ho 1 (by omega)]; exact xk_up_o (by decide)), ?_, ?_, fun i hi => ?_, ⟨hc2, fun e he => ?_⟩, ⟨?_, fun u hu => ?_⟩, fun u hu => ?_, fun q u h1 h2 => ?_⟩
            · rw [ho 0 (by omega), xk_up_s, if_neg (by decide)]; exact r2
            · rw [ho 0 (by omega), xk_up_s, if_neg (by decide)]; exact r3
            · rw [ho 4 (by omega), xk_up_o (by decide)]; exact r4 i hi
            · have he : e < aCn S - 1 := he
              rw [((hrow 5 (by omega) (by omega)) e).1 (by omega), ((hrow 6 (by omega) (by omega)) e).1 (by omega), ((hrow 7 (by omega) (by omega)) e).1 (by omega), ((hrow 8 (by omega) (by omega)) e).1 (by omega)]
              show _ = (am_del (aL S) j e).1 ∧ _ = nI (am_del (aL S) j e).2.1 ∧ _ = nI (am_del (aL S) j e).2.2.1 ∧ _ = nI (am_del (aL S) j e).2.2.2
              unfold am_del
              by_cases hej : e < j
              · rw [if_pos hej, if_pos hej]; exact r5.2 e (by omega)
              · rw [if_neg hej, if_neg hej]; exact r5.2 (e + 1) (by omega)
            · rw [ho 0 (by omega), xk_up_s, if_neg (by decide)]; exact r6.1
            · have h := r6.2 u hu
              unfold xm_at at h ⊢
              rw [ho 9 (by omega), ho 10 (by omega), ho 11 (by omega), ho 12 (by omega), ho 13 (by omega), ho 14 (by omega), ho 15 (by omega)]
              simp (disch := omega) only [xk_up_o]
              exact h
            · rw [ho 2 (by omega), ho 3 (by omega)]
              simp (disch := omega) only [xk_up_o]
              exact r7 u hu
            · rw [ho 11 (by omega), ho 12 (by omega), ho 13 (by omega), ho 15 (by omega)]
              simp (disch := omega) only [xk_up_o]
              exact r8 q u h1 h2
          · exact absurd h (by omega)
        | succ m ih =>
          intro i τ hi hji hrow h2 ho
          have hc2 : τ.1 0 7 = nI (aCn S - 1) := by rw [ho 0 (by omega), xk_up_s, if_pos rfl]
          have rd : ∀ r, 5 ≤ r → r ≤ 8 → τ.1 r (i + 1) = σ.1 r (i + 1) := fun r a b => ((hrow r a b) (i + 1)).2 (by omega)
          refine x_iload_n hE d_M_forget_26 2 rfl ?_
          refine x_aload_n hE d_M_forget_27 0 rfl ?_
          refine gf_M_110 hc d_M_forget_28 hc2 ?_
          first | refine xn_icmp_ge hE d_M_forget_31 (fun h => ?_) (fun h => ?_) | refine x_icmp_ge hE d_M_forget_31 (fun h => ?_) (fun h => ?_)
          · exact absurd h (by omega)
          · skip
            refine x_aload_n hE d_M_forget_34 0 rfl ?_
            refine gf_M_23 hc d_M_forget_35 ?_
            refine x_iload_n hE d_M_forget_38 2 rfl ?_
            refine x_aload_n hE d_M_forget_39 0 rfl ?_
            refine gf_M_23 hc d_M_forget_40 ?_
            refine x_iload_n hE d_M_forget_43 2 rfl ?_
            refine x_iconst (nI 1) hE d_M_forget_44 (by decide) ?_
            first | refine xn_iadd hE d_M_forget_45 ?_ | refine x_iadd hE d_M_forget_45 ?_
            refine x_iald hc rfl rfl (by omega) (by decide) d_M_forget_46 (rd 5 (by omega) (by omega)) ?_
            refine x_iast hc rfl rfl (by omega) (by decide) d_M_forget_47 ?_
            refine x_aload_n hE d_M_forget_48 0 rfl ?_
            refine gf_M_26 hc d_M_forget_49 ?_
            refine x_iload_n hE d_M_forget_52 2 rfl ?_
            refine x_aload_n hE d_M_forget_53 0 rfl ?_
            refine gf_M_26 hc d_M_forget_54 ?_
            refine x_iload_n hE d_M_forget_57 2 rfl ?_
            refine x_iconst (nI 1) hE d_M_forget_58 (by decide) ?_
            first | refine xn_iadd hE d_M_forget_59 ?_ | refine x_iadd hE d_M_forget_59 ?_
            refine x_iald hc rfl rfl (by omega) (by decide) d_M_forget_60 (show _ = σ.1 6 (i + 1) by rw [xk_up_o (by decide)]; exact rd 6 (by omega) (by omega)) ?_
            refine x_iast hc rfl rfl (by omega) (by decide) d_M_forget_61 ?_
            refine x_aload_n hE d_M_forget_62 0 rfl ?_
            refine gf_M_29 hc d_M_forget_63 ?_
            refine x_iload_n hE d_M_forget_66 2 rfl ?_
            refine x_aload_n hE d_M_forget_67 0 rfl ?_
            refine gf_M_29 hc d_M_forget_68 ?_
            refine x_iload_n hE d_M_forget_71 2 rfl ?_
            refine x_iconst (nI 1) hE d_M_forget_72 (by decide) ?_
            first | refine xn_iadd hE d_M_forget_73 ?_ | refine x_iadd hE d_M_forget_73 ?_
            refine x_iald hc rfl rfl (by omega) (by decide) d_M_forget_74 (show _ = σ.1 7 (i + 1) by rw [xk_up_o (by decide), xk_up_o (by decide)]; exact rd 7 (by omega) (by omega)) ?_
            refine x_iast hc rfl rfl (by omega) (by decide) d_M_forget_75 ?_
            refine x_aload_n hE d_M_forget_76 0 rfl ?_
            refine gf_M_32 hc d_M_forget_77 ?_
            refine x_iload_n hE d_M_forget_80 2 rfl ?_
            refine x_aload_n hE d_M_forget_81 0 rfl ?_
            refine gf_M_32 hc d_M_forget_82 ?_
            refine x_iload_n hE d_M_forget_85 2 rfl ?_
            refine x_iconst (nI 1) hE d_M_forget_86 (by decide) ?_
            first | refine xn_iadd hE d_M_forget_87 ?_ | refine x_iadd hE d_M_forget_87 ?_
            refine x_iald hc rfl rfl (by omega) (by decide) d_M_forget_88 (show _ = σ.1 8 (i + 1) by rw [xk_up_o (by decide), xk_up_o (by decide), xk_up_o (by decide)]; exact rd 8 (by omega) (by omega)) ?_
            refine x_iast hc rfl rfl (by omega) (by decide) d_M_forget_89 ?_
            refine x_iinc 2 (nI (_ + 1)) [(2, _), (0, _), (1, _)] hE d_M_forget_90 rfl (nI_inc _) (by decide) rfl ?_
            refine x_goto hE d_M_forget_93 ?_
            refine x_lv [1, 2, 0] (lv' := [(0, _), (1, _), (2, _)]) rfl ?_
            refine ih (i + 1) _ (by omega) (by omega) (fun r h5 h8 e => ?_) h2 (fun r hr => ?_)
            · have hrc : r = 5 ∨ r = 6 ∨ r = 7 ∨ r = 8 := by omega
              have hh := (hrow r h5 h8) e
              have key : (xk_up (xk_up (xk_up (xk_up τ 5 i (σ.1 5 (i + 1))) 6 i (σ.1 6 (i + 1))) 7 i (σ.1 7 (i + 1))) 8 i (σ.1 8 (i + 1))).1 r e = if e = i then σ.1 r (i + 1) else τ.1 r e := by
                rcases hrc with rfl | rfl | rfl | rfl <;> simp (disch := omega) only [xk_up_s, xk_up_o]
              rw [key]
              constructor
              · intro he
                by_cases e1 : e = i
                · subst e1; rw [if_pos rfl, if_neg (by omega)]
                · rw [if_neg e1]; exact hh.1 (by omega)
              · intro he
                rw [if_neg (by omega)]; exact hh.2 (by omega)
            · simp (disch := omega) only [xk_up_o]
              exact ho r hr
      refine loop (aCn S - 1 - j) j _ (by omega) (Nat.le_refl _) (fun r h5 h8 e => ?_) rfl (fun _ _ => rfl)
      rw [xk_up_o (by omega)]
      exact ⟨fun he => by rw [if_pos he], fun _ => rfl⟩
    · exact no K hE hc (fun q => q.2 (by rw [← Int32.not_lt]; exact h2))
theorem k_M_run (hR : xm_R S σ) (hS : am_okS S) {m : Int32} : xk_M (xm G) 5 y_M_run [.ref (xk_wA (xm G) 0), .int m] σ (xk_pi (fun r τ => r = (am_run S m).1 ∧ xm_R (am_run S m).2 τ)) := by
  have h200 := hS.2.2.1
  have no : ∀ K : xk_K, xk_E K c_M_run 3 → xk_H K (xm G) c_M_run 3 RM 5 (some .int) (xk_pi (fun r τ => r = (am_run S m).1 ∧ xm_R (am_run S m).2 τ)) → (m < nI 1 ∨ nI 20 < m) → xk_X K (xk_vw (xm G)) σ 11 [(0, .ref (xk_wA (xm G) 0)), (1, .int m)] [] := by
    intro K hE hc h
    refine x_iconst (-1) hE d_M_run_11 (by decide) ?_
    have e : am_run S m = (-1, S) := by unfold am_run; rw [if_pos h]
    exact x_iret hc d_M_run_12 (by rw [e]; exact ⟨rfl, hR⟩)
  refine xk_enter (by decide) (Nat.le_of_ble_eq_true rfl) (fun K hE hc => ?_)
  show xk_X K _ _ 0 [(0, _), (1, _)] []
  refine x_iload_n hE d_M_run_0 1 rfl ?_
  refine x_iconst (nI 1) hE d_M_run_1 (by decide) ?_
  refine x_icmp_lt hE d_M_run_2 (fun h1 => ?_) (fun h1 => ?_)
  · exact no K hE hc (Or.inl h1)
  · skip
    refine x_iload_n hE d_M_run_5 1 rfl ?_
    refine x_bipush (nI 20) hE d_M_run_6 (by decide) ?_
    refine x_icmp_le hE d_M_run_8 (fun h2 => ?_) (fun h2 => ?_)
    · skip
      have hneg : ¬ (m < nI 1 ∨ nI 20 < m) := fun q => by
        rcases q with q | q
        · exact h1 q
        · exact (Int32.not_le.mpr q) h2
      obtain ⟨mm, hm1, rfl⟩ : ∃ mm, mm ≤ 20 ∧ m = nI mm := by
        have hpos : ¬ m < 0 := fun q => h1 (by
          rw [Int32.lt_iff_toInt_lt] at q ⊢
          rw [nI_toInt (by decide)]
          rw [Int32.toInt_zero] at q
          omega)
        exact nI_of2 (M := nI 20) (by decide) hpos h2
      have em : (nI mm).toNatClampNeg = mm := nI_clamp (by omega)
      refine x_aload_n hE d_M_run_13 0 rfl ?_
      refine gf_M_93 hc d_M_run_14 hR.2.1 ?_
      cases hbg : aBg S with
      | false =>
        first | refine xn_if_ne hE d_M_run_17 (fun z => ?_) (fun z => ?_) | refine x_if_ne hE d_M_run_17 (fun z => ?_) (fun z => ?_)
        · exact absurd rfl z
        · skip
          refine x_bipush (-3) hE d_M_run_20 (by decide) ?_
          have e : am_run S (nI mm) = (-3, S) := by unfold am_run; rw [if_neg hneg, if_pos hbg]
          exact x_iret hc d_M_run_22 (by rw [e]; exact ⟨rfl, hR⟩)
      | true =>
        first | refine xn_if_ne hE d_M_run_17 (fun z => ?_) (fun z => ?_) | refine x_if_ne hE d_M_run_17 (fun z => ?_) (fun z => ?_)
        · skip
          refine x_aload_n hE d_M_run_23 0 rfl ?_
          refine gf_M_107 hc d_M_run_24 hR.2.2.1 ?_
          refine x_iload_n hE d_M_run_27 1 rfl ?_
          first | refine xn_iadd hE d_M_run_28 ?_ | refine x_iadd hE d_M_run_28 ?_
          refine x_sipush (nI 200) hE d_M_run_29 (by decide) ?_
          first | refine xn_icmp_le hE d_M_run_32 (fun h3 => ?_) (fun h3 => ?_) | refine x_icmp_le hE d_M_run_32 (fun h3 => ?_) (fun h3 => ?_)
          · skip
            have e : am_run S (nI mm) = (nI (aPl S + mm), am_runs mm S) := by
              unfold am_run
              rw [if_neg hneg, if_neg (by rw [hbg]; simp), em, if_neg (by omega)]
            refine x_iconst (nI 0) hE d_M_run_38 (by decide) ?_
            refine x_istore_n [(2, _), (0, _), (1, _)] hE d_M_run_39 rfl (by decide) rfl ?_
            refine x_lv [1, 2, 0] (lv' := [(0, _), (1, _), (2, _)]) rfl ?_
            have loop : ∀ (q i : Nat) (S2 : am_S) (τ : xk_St), i + q = mm → xm_R S2 τ → am_okS S2 → aBg S2 = true → aPl S2 + q ≤ 200 → am_runs q S2 = am_runs mm S → xk_X K (xk_vw (xm G)) τ 40 [(0, .ref (xk_wA (xm G) 0)), (1, .int (nI mm)), (2, .int (nI i))] [] := by
              intro q
              induction q with
              | zero =>
                intro i S2 τ hi hR2 hS2 hbg2 hr he
                refine x_iload_n hE d_M_run_40 2 rfl ?_
                refine x_iload_n hE d_M_run_41 1 rfl ?_
                first | refine xn_icmp_ge hE d_M_run_42 (fun h => ?_) (fun h => ?_) | refine x_icmp_ge hE d_M_run_42 (fun h => ?_) (fun h => ?_)
                · skip
                  refine x_aload_n hE d_M_run_78 0 rfl ?_
                  refine gf_M_107 hc d_M_run_79 hR2.2.2.1 ?_
                  have he : S2 = am_runs mm S := he
                  refine x_iret hc d_M_run_82 ?_
                  rw [e, ← am_runs_pl, ← he]
                  exact ⟨rfl, hR2⟩
                · exact absurd h (by omega)
              | succ q ih =>
                intro i S2 τ hi hR2 hS2 hbg2 hr he
                obtain ⟨r1, r2, r3, r4, r5, r6, r7, r8⟩ := hR2
                refine x_iload_n hE d_M_run_40 2 rfl ?_
                refine x_iload_n hE d_M_run_41 1 rfl ?_
                first | refine xn_icmp_ge hE d_M_run_42 (fun h => ?_) (fun h => ?_) | refine x_icmp_ge hE d_M_run_42 (fun h => ?_) (fun h => ?_)
                · exact absurd h (by omega)
                · skip
                  refine x_aload_n hE d_M_run_45 0 rfl ?_
                  refine gf_M_20 hc d_M_run_46 ?_
                  refine x_aload_n hE d_M_run_49 0 rfl ?_
                  refine gf_M_107 hc d_M_run_50 r3 ?_
                  refine x_aload_n hE d_M_run_53 0 rfl ?_
                  refine x_aload_n hE d_M_run_54 0 rfl ?_
                  refine gf_M_107 hc d_M_run_55 r3 ?_
                  refine ca_M_145 hc d_M_run_58 (k_M_play hS2.1 r6 hS2.2.2.2.2 r1 (show aPl S2 < 2 ^ 31 by omega) r5 hS2.2.2.2.1) (fun r τ hq => ?_)
                  obtain ⟨rfl, p1, p2⟩ := hq
                  have p3 : τ.1 0 5 = nI (aPl S2) := by rw [p2.2 0 (by omega)]; exact r3
                  refine x_iast hc rfl rfl (by omega) (by decide) d_M_run_61 ?_
                  refine x_aload_n hE d_M_run_62 0 rfl ?_
                  refine x_dup hE d_M_run_63 rfl ?_
                  refine gf_M_107 hc d_M_run_64 (show _ = nI (aPl S2) by rw [xk_up_o (by omega)]; exact p3) ?_
                  refine x_iconst (nI 1) hE d_M_run_67 (by decide) ?_
                  first | refine xn_iadd hE d_M_run_68 ?_ | refine x_iadd hE d_M_run_68 ?_
                  refine pf_M_107 hc d_M_run_69 ?_
                  refine x_iinc 2 (nI (_ + 1)) [(2, _), (0, _), (1, _)] hE d_M_run_72 rfl (nI_inc _) (by decide) rfl ?_
                  refine x_goto hE d_M_run_75 ?_
                  refine x_lv [1, 2, 0] (lv' := [(0, _), (1, _), (2, _)]) rfl ?_
                  refine ih (i + 1) (am_one S2) _ (by omega) ?_ (am_ok_one hS2 (by omega)) hbg2 (by show aPl S2 + 1 + q ≤ 200; omega) he
                  refine ⟨r1.mv ?_, ?_, ?_, fun k hk => ?_, ⟨?_, fun e he => ?_⟩, ⟨?_, fun u hu => ?_⟩, fun u hu => ?_, fun w => by rw [show aBg (am_one S2) = true from hbg2] at w; cases w⟩
                  · rw [xk_up_o (by omega), xk_up_o (by omega), p2.2 1 (by omega)]
                  · rw [xk_up_s, if_neg (by decide), xk_up_o (by omega), p2.2 0 (by omega)]; exact r2
                  · rw [xk_up_s, if_pos rfl]; rfl
                  · have hk : k < aPl S2 + 1 := hk
                    rw [xk_up_o (by omega), xk_up_s]
                    show _ = am_set (aNm S2) (aPl S2) _ k
                    by_cases e1 : k = aPl S2
                    · subst e1; rw [if_pos rfl, am_set_s]
                    · rw [if_neg e1, am_set_n e1, p2.2 4 (by omega)]; exact r4 k (by omega)
                  · rw [xk_up_s, if_neg (by decide), xk_up_o (by omega), p2.2 0 (by omega)]; exact r5.1
                  · simp (disch := omega) only [xk_up_o]
                    rw [p2.2 5 (by omega), p2.2 6 (by omega), p2.2 7 (by omega), p2.2 8 (by omega)]
                    exact r5.2 e he
                  · rw [xk_up_s, if_neg (by decide), xk_up_o (by omega)]; exact p1.1
                  · have h := p1.2 u hu
                    unfold xm_at at h ⊢
                    simp (disch := omega) only [xk_up_o]
                    exact h
                  · simp (disch := omega) only [xk_up_o]
                    rw [p2.2 2 (by omega), p2.2 3 (by omega)]
                    exact r7 u hu
            exact loop mm 0 S σ (by omega) hR hS hbg (by omega) rfl
          · skip
            refine x_bipush (-2) hE d_M_run_35 (by decide) ?_
            have e : am_run S (nI mm) = (-2, S) := by
              unfold am_run
              rw [if_neg hneg, if_neg (by rw [hbg]; simp), em, if_pos (by omega)]
            exact x_iret hc d_M_run_37 (by rw [e]; exact ⟨rfl, hR⟩)
        · exact absurd z (by decide)
    · exact no K hE hc (Or.inr (by rw [← Int32.not_le]; exact h2))
end XM6
