/-! THE REFERENCE: steps, moves, orders -/
section XM3
variable {G : xk_D} {σ : xk_St} {n u : Nat} {P : am_P} {W : Nat → Bool}
theorem xm_F.one {τ : xk_St} (h : xm_F σ τ) : xm_one u σ τ := ⟨h.1, fun k hk => h.2 k (by omega) (by omega) (by omega), fun k v _ _ k1 k2 => by rw [h.2 k (by omega) (by omega) (by omega)], fun i _ => by rw [h.2 14 (by omega) (by omega) (by omega)]⟩
theorem xm_F.at {τ : xk_St} {x : am_U} (h : xm_F σ τ) (hx : xm_at σ u x) : xm_at τ u x := by
  unfold xm_at at hx ⊢
  rw [h.2 9 (by omega) (by omega) (by omega), h.2 10 (by omega) (by omega) (by omega), h.2 11 (by omega) (by omega) (by omega), h.2 12 (by omega) (by omega) (by omega), h.2 13 (by omega) (by omega) (by omega), h.2 14 (by omega) (by omega) (by omega), h.2 15 (by omega) (by omega) (by omega)]
  exact hx
/-- behind a search and a take: the path is the one that was found -/
theorem xm_took {τ υ : xk_St} {x : am_U} {l : List Nat} (hx : xm_at σ u x) (hF : xm_F σ τ) (hw : ∀ i (h : i < l.length), τ.1 25 i = nI (l[i])) (hl : l.length ≤ 64) (h1 : ∀ i, i < l.length → υ.1 14 (64 * u + i) = τ.1 25 i) (h2 : υ.1 15 u = nI l.length) (h3 : ∀ k, k ≠ 14 → k ≠ 15 → υ.1 k = τ.1 k) : xm_at υ u (am_pts x, am_til x, am_ord x, am_aim x, am_pat x, l) := by
  obtain ⟨g1, g2, g3, g4, g5, g6, g7, g8⟩ := hF.at hx
  refine ⟨?_, fun q => ?_, ?_, ?_, ?_, h2, hl, fun i hi => ?_⟩
  · rw [h3 9 (by decide) (by decide)]; exact g1
  · rw [h3 10 (by decide) (by decide)]; exact g2 q
  · rw [h3 11 (by decide) (by decide)]; exact g3
  · rw [h3 12 (by decide) (by decide)]; exact g4
  · rw [h3 13 (by decide) (by decide)]; exact g5
  · rw [h1 i hi, hw i hi]
theorem k_M_step (hn : n ≤ 8) (hu : u < n) (hpl : xm_pl n P σ) (hok : am_okP n P) (hW : xm_W W σ) {x : am_U} (hx : x = P u) (ha : 0 < am_pts x) {g : Nat} (hg : g < 64) {fl : Nat} (hfl : fl = (if am_ord x = 2 then 1 else 0)) (ho : am_ord x = 1 ∨ am_ord x = 2) {t : Nat} {tl : List Nat} (hp : am_pth x = t :: tl) : xk_M (xm G) 2 y_M_step [.ref (xk_wA (xm G) 0), .int (nI u), .int (nI g), .int (nI fl)] σ (xk_pv (fun τ => xm_at τ u (am_step W n P x g) ∧ xm_one u σ τ)) := by
  have hat := hpl.2 u hu
  rw [← hx] at hat
  have hxo := hok u hu
  rw [← hx] at hxo
  have hat0 := hat
  obtain ⟨h1, h2, h3, h4, h5, h6, h7, h8⟩ := hat
  have hl : (am_pth x).length = tl.length + 1 := by rw [hp]; rfl
  have ht : t < 64 := hxo.2.2.2.2.2.2.2.1 t (by rw [hp]; exact List.mem_cons_self)
  have h80 : σ.1 14 (64 * u) = nI t := by
    have := h8 0 (by omega)
    simpa [hp] using this
  have hpat := hxo.2.2.2.2.2.1
  have hfl2 : fl < 2 := by rw [hfl]; split <;> omega
  refine xk_enter (by decide) (Nat.le_of_ble_eq_true rfl) (fun K hE hc => ?_)
  show xk_X K _ _ 0 [(0, _), (1, _), (2, _), (3, _)] []
  refine x_aload_n hE d_M_step_0 0 rfl ?_
  refine gf_M_50 hc d_M_step_1 ?_
  refine x_bipush (nI 64) hE d_M_step_4 (by decide) ?_
  refine x_iload_n hE d_M_step_6 1 rfl ?_
  first | refine xn_imul hE d_M_step_7 ?_ | refine x_imul hE d_M_step_7 ?_
  refine x_iald hc rfl rfl (by omega) (by decide) d_M_step_8 h80 ?_
  refine x_istore [(4, _), (0, _), (1, _), (2, _), (3, _)] hE d_M_step_9 (by decide) rfl ?_
  refine x_aload_n hE d_M_step_11 1 rfl ?_
  refine x_iload hE d_M_step_12 0 rfl ?_
  refine ca_M_101 hc d_M_step_14 (k_M_isTaken hn hpl hok ht) (fun r τ hq => ?_)
  obtain ⟨rfl, rfl⟩ := hq
  cases htk : am_taken P t n with
  | false =>
    first | refine xn_if_ne hE d_M_step_17 (fun z => ?_) (fun z => ?_) | refine x_if_ne hE d_M_step_17 (fun z => ?_) (fun z => ?_)
    · exact absurd rfl z
    · skip
      refine x_aload_n hE d_M_step_20 1 rfl ?_
      refine gf_M_38 hc d_M_step_21 ?_
      refine x_iload_n hE d_M_step_24 2 rfl ?_
      refine x_iload hE d_M_step_25 0 rfl ?_
      refine x_iast hc rfl rfl (by omega) (by decide) d_M_step_27 ?_
      refine x_aload_n hE d_M_step_28 1 rfl ?_
      refine gf_M_53 hc d_M_step_29 ?_
      refine x_iload_n hE d_M_step_32 2 rfl ?_
      refine x_dup2 hE d_M_step_33 rfl rfl ?_
      refine x_iald hc rfl rfl (by omega) (by decide) d_M_step_34 (show _ = nI (tl.length + 1) by rw [xk_up_o (by decide), h6, hl]) ?_
      refine x_iconst (nI 1) hE d_M_step_35 (by decide) ?_
      first | refine xn_isub hE d_M_step_36 ?_ | refine x_isub hE d_M_step_36 ?_
      refine x_iast hc rfl rfl (by omega) (by decide) d_M_step_37 ?_
      refine x_iconst (nI 0) hE d_M_step_38 (by decide) ?_
      refine x_istore [(5, _), (4, _), (0, _), (1, _), (2, _), (3, _)] hE d_M_step_39 (by decide) rfl ?_
      refine x_lv [2, 3, 4, 5, 1, 0] (lv' := [(0, _), (1, _), (2, _), (3, _), (4, _), (5, _)]) rfl ?_
      have loop : ∀ (m i : Nat) (τ : xk_St), i + m = tl.length → (∀ j, j < i → τ.1 14 (64 * u + j) = nI (tl.getD j 0)) → (∀ j, i ≤ j → j < tl.length → τ.1 14 (64 * u + (j + 1)) = nI (tl.getD j 0)) → (∀ j, j < 64 * u ∨ 64 * u + 64 ≤ j → τ.1 14 j = σ.1 14 j) → (∀ k, k ≠ 14 → τ.1 k = (xk_up (xk_up σ 10 u (nI t)) 15 u (nI (tl.length + 1 - 1))).1 k) → τ.2 = σ.2 → xk_X K (xk_vw (xm G)) τ 41 [(0, .ref (xk_wA (xm G) 0)), (1, .int (nI u)), (2, .int (nI g)), (3, .int (nI fl)), (4, .int (nI t)), (5, .int (nI i))] [] := by
        intro m
        induction m with
        | zero =>
          intro i τ hi q1 q2 q3 q4 q5
          have e15 : τ.1 15 u = nI (tl.length + 1 - 1) := by rw [q4 15 (by decide), xk_up_s, if_pos rfl]
          refine x_iload hE d_M_step_41 5 rfl ?_
          refine x_aload_n hE d_M_step_43 0 rfl ?_
          refine gf_M_53 hc d_M_step_44 ?_
          refine x_iload_n hE d_M_step_47 1 rfl ?_
          refine x_iald hc rfl rfl (by omega) (by decide) d_M_step_48 e15 ?_
          first | refine xn_icmp_ge hE d_M_step_49 (fun h => ?_) (fun h => ?_) | refine x_icmp_ge hE d_M_step_49 (fun h => ?_) (fun h => ?_)
          · skip
            refine x_aload_n hE d_M_step_84 0 rfl ?_
            refine gf_M_47 hc d_M_step_85 ?_
            refine x_iload_n hE d_M_step_88 1 rfl ?_
            refine x_iconst (nI 0) hE d_M_step_89 (by decide) ?_
            refine x_iast hc rfl rfl (by omega) (by decide) d_M_step_90 ?_
            refine x_iload_n hE d_M_step_91 3 rfl ?_
            have hat2 : xm_at (xk_up τ 13 u (nI 0)) u (am_pts x, t, am_ord x, am_aim x, 0, tl) := by
              refine ⟨?_, fun _ => ?_, ?_, ?_, ?_, ?_, by show tl.length ≤ 64; omega, fun j hj => ?_⟩
              · rw [xk_up_o (by decide), q4 9 (by decide), xk_up_o (by decide), xk_up_o (by decide)]; exact h1
              · rw [xk_up_o (by decide), q4 10 (by decide), xk_up_o (by decide), xk_up_s, if_pos rfl]
              · rw [xk_up_o (by decide), q4 11 (by decide), xk_up_o (by decide), xk_up_o (by decide)]; exact h3
              · rw [xk_up_o (by decide), q4 12 (by decide), xk_up_o (by decide), xk_up_o (by decide)]; exact h4
              · rw [xk_up_s, if_pos rfl]
              · rw [xk_up_o (by decide)]; exact e15
              · have hj : j < tl.length := hj
                rw [xk_up_o (by decide), q1 j (by omega)]
                congr 1
                simp [hj]
            have hone2 : xm_one u σ (xk_up τ 13 u (nI 0)) := by
              refine ⟨q5, fun k hk => ?_, fun k v hv k1 k2 k3 => ?_, fun j hj => by rw [xk_up_o (by decide)]; exact q3 j hj⟩
              · rw [xk_up_o (by omega), q4 k (by omega), xk_up_o (by omega), xk_up_o (by omega)]
              · have e1 : τ.1 k v = σ.1 k v := by
                  rw [q4 k k1]
                  by_cases e : k = 15
                  · subst e; rw [xk_up_s, if_neg hv, xk_up_o (by decide)]
                  · rw [xk_up_o e]
                    by_cases e2 : k = 10
                    · subst e2; rw [xk_up_s, if_neg hv]
                    · rw [xk_up_o e2]
                by_cases e : k = 13
                · subst e; rw [xk_up_s, if_neg hv]; exact e1
                · rw [xk_up_o e]; exact e1
            have hstep : am_step W n P x g = (if am_ord x = 1 ∧ t = g then (am_pts x, t, 0, 0, 0, tl) else (am_pts x, t, am_ord x, am_aim x, 0, tl)) := by
              unfold am_step
              rw [hp]
              simp only [htk]
              rw [if_pos trivial]
            first | refine xn_if_ne hE d_M_step_92 (fun y => ?_) (fun y => ?_) | refine x_if_ne hE d_M_step_92 (fun y => ?_) (fun y => ?_)
            · skip
              have ho2 : am_ord x = 2 := by
                rcases ho with o | o
                · rw [if_neg (by omega)] at hfl; exact absurd hfl y
                · exact o
              exact x_ret hc d_M_step_106 (⟨by rw [hstep, if_neg (by omega)]; exact hat2, hone2⟩)
            · skip
              have ho1 : am_ord x = 1 := by
                rcases ho with o | o
                · exact o
                · rw [if_pos o] at hfl; omega
              refine x_iload hE d_M_step_95 4 rfl ?_
              refine x_iload_n hE d_M_step_97 2 rfl ?_
              first | refine xn_icmp_ne hE d_M_step_98 (fun w => ?_) (fun w => ?_) | refine x_icmp_ne hE d_M_step_98 (fun w => ?_) (fun w => ?_)
              · skip
                exact x_ret hc d_M_step_106 (⟨by rw [hstep, if_neg (fun q => w q.2)]; exact hat2, hone2⟩)
              · skip
                refine x_aload_n hE d_M_step_101 0 rfl ?_
                refine x_iload_n hE d_M_step_102 1 rfl ?_
                refine ca_M_121 hc d_M_step_103 (k_M_stop (by omega)) (fun τ hq => ?_)
                obtain rfl := hq
                obtain ⟨f1, f2⟩ := xm_drop_at hat2
                exact x_ret hc d_M_step_106 (⟨by rw [hstep, if_pos ⟨ho1, w⟩]; exact f1, hone2.tr f2⟩)
          · exact absurd h (by omega)
        | succ m ih =>
          intro i τ hi q1 q2 q3 q4 q5
          have e15 : τ.1 15 u = nI (tl.length + 1 - 1) := by rw [q4 15 (by decide), xk_up_s, if_pos rfl]
          refine x_iload hE d_M_step_41 5 rfl ?_
          refine x_aload_n hE d_M_step_43 0 rfl ?_
          refine gf_M_53 hc d_M_step_44 ?_
          refine x_iload_n hE d_M_step_47 1 rfl ?_
          refine x_iald hc rfl rfl (by omega) (by decide) d_M_step_48 e15 ?_
          first | refine xn_icmp_ge hE d_M_step_49 (fun h => ?_) (fun h => ?_) | refine x_icmp_ge hE d_M_step_49 (fun h => ?_) (fun h => ?_)
          · exact absurd h (by omega)
          · skip
            refine x_aload_n hE d_M_step_52 0 rfl ?_
            refine gf_M_50 hc d_M_step_53 ?_
            refine x_bipush (nI 64) hE d_M_step_56 (by decide) ?_
            refine x_iload_n hE d_M_step_58 1 rfl ?_
            first | refine xn_imul hE d_M_step_59 ?_ | refine x_imul hE d_M_step_59 ?_
            refine x_iload hE d_M_step_60 5 rfl ?_
            first | refine xn_iadd hE d_M_step_62 ?_ | refine x_iadd hE d_M_step_62 ?_
            refine x_aload_n hE d_M_step_63 0 rfl ?_
            refine gf_M_50 hc d_M_step_64 ?_
            refine x_bipush (nI 64) hE d_M_step_67 (by decide) ?_
            refine x_iload_n hE d_M_step_69 1 rfl ?_
            first | refine xn_imul hE d_M_step_70 ?_ | refine x_imul hE d_M_step_70 ?_
            refine x_iload hE d_M_step_71 5 rfl ?_
            first | refine xn_iadd hE d_M_step_73 ?_ | refine x_iadd hE d_M_step_73 ?_
            refine x_iconst (nI 1) hE d_M_step_74 (by decide) ?_
            first | refine xn_iadd hE d_M_step_75 ?_ | refine x_iadd hE d_M_step_75 ?_
            refine x_iald hc rfl rfl (by omega) (by decide) d_M_step_76 (show _ = nI (tl.getD i 0) by rw [show 64 * u + i + 1 = 64 * u + (i + 1) by omega]; exact q2 i (by omega) (by omega)) ?_
            refine x_iast hc rfl rfl (by omega) (by decide) d_M_step_77 ?_
            refine x_iinc 5 (nI (_ + 1)) [(5, _), (0, _), (1, _), (2, _), (3, _), (4, _)] hE d_M_step_78 rfl (nI_inc _) (by decide) rfl ?_
            refine x_goto hE d_M_step_81 ?_
            refine x_lv [1, 2, 3, 4, 5, 0] (lv' := [(0, _), (1, _), (2, _), (3, _), (4, _), (5, _)]) rfl ?_
            refine ih (i + 1) _ (by omega) (fun j hj => ?_) (fun j j1 j2 => ?_) (fun j hj => ?_) (fun k hk => by rw [xk_up_o hk]; exact q4 k hk) q5
            · rw [xk_up_s]
              by_cases e : j = i
              · subst e; rw [if_pos rfl]
              · rw [if_neg (by omega)]; exact q1 j (by omega)
            · rw [xk_up_s, if_neg (by omega)]; exact q2 j (by omega) j2
            · rw [xk_up_s, if_neg (by omega)]; exact q3 j hj
      refine loop tl.length 0 _ (by omega) (fun j hj => absurd hj (Nat.not_lt_zero _)) (fun j _ hj => ?_) (fun j _ => by rw [xk_up_o (by decide), xk_up_o (by decide)]) (fun _ _ => rfl) rfl
      rw [xk_up_o (by decide), xk_up_o (by decide), h8 (j + 1) (by omega)]
      congr 1
      simp [hp, hj]
  | true =>
    have hup : ∀ v : Nat, xm_at (xk_up σ 13 u (nI v)) u (am_pts x, am_til x, am_ord x, am_aim x, v, am_pth x) := by
      intro v
      refine ⟨?_, ?_, ?_, ?_, ?_, ?_, h7, fun i hi => ?_⟩
      all_goals simp (disch := omega) only [xk_up_s, xk_up_o]
      · exact h1
      · exact h2
      · exact h3
      · exact h4
      · rfl
      · exact h6
      · exact h8 i hi
    first | refine xn_if_ne hE d_M_step_17 (fun z => ?_) (fun z => ?_) | refine x_if_ne hE d_M_step_17 (fun z => ?_) (fun z => ?_)
    · skip
      refine x_aload_n hE d_M_step_107 1 rfl ?_
      refine gf_M_47 hc d_M_step_108 ?_
      refine x_iload_n hE d_M_step_111 2 rfl ?_
      refine x_dup2 hE d_M_step_112 rfl rfl ?_
      refine x_iald hc rfl rfl (by omega) (by decide) d_M_step_113 h5 ?_
      refine x_iconst (nI 1) hE d_M_step_114 (by decide) ?_
      first | refine xn_iadd hE d_M_step_115 ?_ | refine x_iadd hE d_M_step_115 ?_
      refine x_iast hc rfl rfl (by omega) (by decide) d_M_step_116 ?_
      refine x_aload_n hE d_M_step_117 1 rfl ?_
      refine gf_M_47 hc d_M_step_118 ?_
      refine x_iload_n hE d_M_step_121 2 rfl ?_
      refine x_iald hc rfl rfl (by omega) (by decide) d_M_step_122 (by rw [xk_up_s, if_pos rfl]) ?_
      refine x_iconst (nI 3) hE d_M_step_123 (by decide) ?_
      first | refine xn_icmp_ge hE d_M_step_124 (fun w => ?_) (fun w => ?_) | refine x_icmp_ge hE d_M_step_124 (fun w => ?_) (fun w => ?_)
      · skip
        refine x_aload_n hE d_M_step_128 1 rfl ?_
        refine gf_M_47 hc d_M_step_129 ?_
        refine x_iload_n hE d_M_step_132 2 rfl ?_
        refine x_iconst (nI 0) hE d_M_step_133 (by decide) ?_
        refine x_iast hc rfl rfl (by omega) (by decide) d_M_step_134 ?_
        refine x_aload_n hE d_M_step_135 1 rfl ?_
        refine x_aload_n hE d_M_step_136 1 rfl ?_
        refine gf_M_38 hc d_M_step_137 ?_
        refine x_iload_n hE d_M_step_140 2 rfl ?_
        refine x_iald hc rfl rfl (by omega) (by decide) d_M_step_141 (show _ = nI (am_til x) by rw [xk_up_o (by decide), xk_up_o (by decide)]; exact h2 ha) ?_
        refine x_iload_n hE d_M_step_142 3 rfl ?_
        refine x_iconst (nI 1) hE d_M_step_143 (by decide) ?_
        rw [xk_up_up]
        have hat3 := hup 0
        have hone3 : xm_one u σ (xk_up σ 13 u (nI 0)) := xm_one.up (by decide) (by decide) (by decide)
        have hx3 : am_ok n (am_pts x, am_til x, am_ord x, am_aim x, 0, am_pth x) := ⟨hxo.1, hxo.2.1, hxo.2.2.1, hxo.2.2.2.1, hxo.2.2.2.2.1, (by decide : 0 < 3), hxo.2.2.2.2.2.2.1, hxo.2.2.2.2.2.2.2.1, fun e => absurd e (show ¬ am_pts x = 0 by omega)⟩
        have hpl3 := hpl.set hat3 hone3
        have hok3 := am_okP_set (u := u) hok hx3
        have htk3 : ∀ q, (fun q => am_taken P q n) q = (decide (1 = 1) && am_taken (am_set P u (am_pts x, am_til x, am_ord x, am_aim x, 0, am_pth x)) q n) := fun q => by
          rw [am_taken_set (by rw [← hx]) (by rw [← hx])]
          simp
        refine ca_M_117 hc d_M_step_144 (k_M_find hn hpl3 hok3 (hW.mv (hone3.2.1 1 (by omega))) hxo.2.1 hg (by decide) htk3) (fun r τ hq => ?_)
        obtain ⟨rfl, f1, f2⟩ := hq
        have hfo := am_find_ok (free := am_free W (fun q => am_taken P q n) g) (b := g) hxo.2.1
        have hstep : am_step W n P x g = (match am_find (am_free W (fun t => am_taken P t n) g) (am_til x) g with
          | [] => (am_pts x, am_til x, am_ord x, am_aim x, 0, am_pth x)
          | q :: z => (am_pts x, am_til x, am_ord x, am_aim x, 0, q :: z)) := by
          unfold am_step
          rw [hp]
          simp only [htk]
          rw [if_neg (by simp), if_neg (by omega)]
          cases am_find (am_free W (fun t => am_taken P t n) g) (am_til x) g <;> rfl
        refine x_istore [(5, _), (4, _), (0, _), (1, _), (2, _), (3, _)] hE d_M_step_147 (by decide) rfl ?_
        refine x_iload hE d_M_step_149 0 rfl ?_
        first | refine xn_if_le hE d_M_step_151 (fun y => ?_) (fun y => ?_) | refine x_if_le hE d_M_step_151 (fun y => ?_) (fun y => ?_)
        · skip
          refine x_ret hc d_M_step_161 ⟨?_, hone3.tr f2.one⟩
          rw [hstep, List.length_eq_zero_iff.mp y]
          exact f2.at hat3
        · skip
          refine x_aload_n hE d_M_step_154 2 rfl ?_
          refine x_iload_n hE d_M_step_155 3 rfl ?_
          refine x_iload hE d_M_step_156 0 rfl ?_
          refine ca_M_128 hc d_M_step_158 (k_M_take (by omega) (Nat.le_of_lt hfo.1)) (fun τ hq => ?_)
          obtain ⟨t1, t2, t3, t4⟩ := hq
          refine x_ret hc d_M_step_161 ⟨?_, (hone3.tr f2.one).tr t4⟩
          have h9 := xm_took hat3 f2 f1 (Nat.le_of_lt hfo.1) t1 t2 t3
          rw [hstep]
          cases hz : am_find (am_free W (fun t => am_taken P t n) g) (am_til x) g with
          | nil => rw [hz] at y; exact absurd y (by simp)
          | cons q z => rw [hz] at h9; exact h9
      · skip
        have hstep : am_step W n P x g = (am_pts x, am_til x, am_ord x, am_aim x, am_pat x + 1, am_pth x) := by
          unfold am_step
          rw [hp]
          simp only [htk]
          rw [if_neg (by simp), if_pos (by omega), ← hp]
        refine x_ret hc d_M_step_127 ⟨by rw [hstep]; exact hup _, xm_one.up (by decide) (by decide) (by decide)⟩
    · exact absurd z (by decide)
theorem k_M_move (hn : n ≤ 8) (hu : u < n) (hpl : xm_pl n P σ) (hok : am_okP n P) (hW : xm_W W σ) (ho0 : am_ord (P u) ≠ 0) : xk_M (xm G) 3 y_M_move [.ref (xk_wA (xm G) 0), .int (nI u)] σ (xk_pv (fun τ => xm_at τ u (am_go W n P (P u)) ∧ xm_one u σ τ)) := by
  have hat := hpl.2 u hu
  have hxo := hok u hu
  have ha := am_ok_alive hxo ho0
  have ho := hxo.2.2.1
  have haim := hxo.2.2.2.1
  have htil := hxo.2.1
  have hlen := hxo.2.2.2.2.2.2.1
  obtain ⟨h1, h2, h3, h4, h5, h6, h7, h8⟩ := hat
  have hat := hpl.2 u hu
  have rest : ∀ (K : xk_K) (fl g : Nat) (τ : xk_St) (x : am_U), xk_E K c_M_move 4 → xk_H K (xm G) c_M_move 4 RM 3 none (xk_pv (fun τ => xm_at τ u (am_go W n P (P u)) ∧ xm_one u σ τ)) → fl = (if am_ord (P u) = 2 then 1 else 0) → g < 64 → xm_at τ u x → xm_one u σ τ → am_pts x = am_pts (P u) → am_til x = am_til (P u) → am_ord x = am_ord (P u) → am_ok n x → am_go W n P (P u) = am_step W n P x g →
      xk_X K (xk_vw (xm G)) τ 171 [(0, .ref (xk_wA (xm G) 0)), (1, .int (nI u)), (2, .int (nI fl)), (3, .int (nI g))] [] := by
    intro K fl g τ x hE hc hfl hg hatx hone e1 e2 e3 hx hgo
    have hl2 := hx.2.2.2.2.2.2.1
    refine x_aload_n hE d_M_move_171 0 rfl ?_
    refine gf_M_53 hc d_M_move_172 ?_
    refine x_iload_n hE d_M_move_175 1 rfl ?_
    refine x_iald hc rfl rfl (by omega) (by decide) d_M_move_176 hatx.2.2.2.2.2.1 ?_
    cases hpth : am_pth x with
    | nil =>
      first | refine xn_if_ne hE d_M_move_177 (fun z => ?_) (fun z => ?_) | refine x_if_ne hE d_M_move_177 (fun z => ?_) (fun z => ?_)
      · exact absurd rfl z
      · skip
        refine x_aload_n hE d_M_move_180 0 rfl ?_
        refine x_iload_n hE d_M_move_181 1 rfl ?_
        refine ca_M_121 hc d_M_move_182 (k_M_stop (by omega)) (fun τ hq => ?_)
        obtain rfl := hq
        refine x_goto hE d_M_move_185 ?_
        obtain ⟨f1, f2⟩ := xm_drop_at hatx
        exact x_ret hc d_M_move_195 (⟨by rw [hgo]; unfold am_step; rw [hpth]; exact f1, hone.tr f2⟩)
    | cons t tl =>
      have hl3 : (t :: tl).length ≤ 64 := by rw [← hpth]; exact hl2
      first | refine xn_if_ne hE d_M_move_177 (fun z => ?_) (fun z => ?_) | refine x_if_ne hE d_M_move_177 (fun z => ?_) (fun z => ?_)
      · skip
        have hpl2 := hpl.set hatx hone
        have hok2 := am_okP_set (u := u) hok hx
        refine x_aload_n hE d_M_move_188 0 rfl ?_
        refine x_iload_n hE d_M_move_189 1 rfl ?_
        refine x_iload_n hE d_M_move_190 3 rfl ?_
        refine x_iload_n hE d_M_move_191 2 rfl ?_
        refine ca_M_132 hc d_M_move_192 (k_M_step hn hu hpl2 hok2 (hW.mv (hone.2.1 1 (by omega))) (x := x) (by rw [am_set_s]) (by omega) hg (by rw [e3]; exact hfl) (by omega) hpth) (fun τ hq => ?_)
        obtain ⟨f1, f2⟩ := hq
        refine x_ret hc d_M_move_195 ⟨?_, hone.tr f2⟩
        rw [hgo]
        have e9 : am_step W n (am_set P u x) x g = am_step W n P x g := by
          have htk : ∀ t, am_taken (am_set P u x) t n = am_taken P t n := fun t => am_taken_set e1 e2
          unfold am_step
          simp only [htk]
        rw [← e9]
        exact f1
      · exact absurd z (by simp)
  have walk : ∀ (K : xk_K) (fl g : Nat), xk_E K c_M_move 4 → xk_H K (xm G) c_M_move 4 RM 3 none (xk_pv (fun τ => xm_at τ u (am_go W n P (P u)) ∧ xm_one u σ τ)) → fl = (if am_ord (P u) = 2 then 1 else 0) → g < 64 → am_go W n P (P u) = am_walk W n P (P u) g →
      xk_X K (xk_vw (xm G)) σ 123 [(0, .ref (xk_wA (xm G) 0)), (1, .int (nI u)), (2, .int (nI fl)), (3, .int (nI g))] [] := by
    intro K fl g hE hc hfl hg hgo
    have find : (am_pth (P u)).getLast? ≠ some g → xk_X K (xk_vw (xm G)) σ 154 [(0, .ref (xk_wA (xm G) 0)), (1, .int (nI u)), (2, .int (nI fl)), (3, .int (nI g))] [] := by
      intro hl
      have hav0 : ∀ q, (fun _ => false : Nat → Bool) q = (decide (0 = 1) && am_taken P q n) := fun q => by simp
      have hfo := am_find_ok (free := am_free W (fun _ => false) g) (b := g) htil
      refine x_aload_n hE d_M_move_154 0 rfl ?_
      refine x_iload_n hE d_M_move_155 1 rfl ?_
      refine x_aload_n hE d_M_move_156 0 rfl ?_
      refine x_aload_n hE d_M_move_157 0 rfl ?_
      refine gf_M_38 hc d_M_move_158 ?_
      refine x_iload_n hE d_M_move_161 1 rfl ?_
      refine x_iald hc rfl rfl (by omega) (by decide) d_M_move_162 (h2 ha) ?_
      refine x_iload_n hE d_M_move_163 3 rfl ?_
      refine x_iconst (nI 0) hE d_M_move_164 (by decide) ?_
      refine ca_M_117 hc d_M_move_165 (k_M_find hn hpl hok hW htil hg (by decide) hav0) (fun r τ hq => ?_)
      obtain ⟨rfl, f1, f2⟩ := hq
      refine ca_M_128 hc d_M_move_168 (k_M_take (by omega) (Nat.le_of_lt hfo.1)) (fun τ hq => ?_)
      obtain ⟨t1, t2, t3, t4⟩ := hq
      have h9 := xm_took hat f2 f1 (Nat.le_of_lt hfo.1) t1 t2 t3
      exact rest K fl g _ _ hE hc hfl hg h9 (f2.one.tr t4) rfl rfl rfl ⟨hxo.1, hxo.2.1, hxo.2.2.1, hxo.2.2.2.1, hxo.2.2.2.2.1, hxo.2.2.2.2.2.1, Nat.le_of_lt hfo.1, hfo.2, fun e => absurd e (show ¬ am_pts (P u) = 0 by omega)⟩ (by rw [hgo]; unfold am_walk; rw [if_neg hl])
    refine x_aload_n hE d_M_move_123 0 rfl ?_
    refine gf_M_53 hc d_M_move_124 ?_
    refine x_iload_n hE d_M_move_127 1 rfl ?_
    refine x_iald hc rfl rfl (by omega) (by decide) d_M_move_128 h6 ?_
    first | refine xn_if_eq hE d_M_move_129 (fun z => ?_) (fun z => ?_) | refine x_if_eq hE d_M_move_129 (fun z => ?_) (fun z => ?_)
    · exact find (by rw [List.length_eq_zero_iff.mp z]; simp)
    · skip
      have hlast : (am_pth (P u)).getLast? = some ((am_pth (P u))[(am_pth (P u)).length - 1]) := by
        rw [List.getLast?_eq_getElem?, List.getElem?_eq_getElem]
      have h11 := h8 ((am_pth (P u)).length - 1) (by omega)
      rw [show 64 * u + ((am_pth (P u)).length - 1) = 64 * u + (am_pth (P u)).length - 1 by omega] at h11
      have h12 : (am_pth (P u))[(am_pth (P u)).length - 1] < 64 := hxo.2.2.2.2.2.2.2.1 _ (List.getElem_mem _)
      refine x_aload_n hE d_M_move_132 0 rfl ?_
      refine gf_M_50 hc d_M_move_133 ?_
      refine x_bipush (nI 64) hE d_M_move_136 (by decide) ?_
      refine x_iload_n hE d_M_move_138 1 rfl ?_
      first | refine xn_imul hE d_M_move_139 ?_ | refine x_imul hE d_M_move_139 ?_
      refine x_aload_n hE d_M_move_140 0 rfl ?_
      refine gf_M_53 hc d_M_move_141 ?_
      refine x_iload_n hE d_M_move_144 1 rfl ?_
      refine x_iald hc rfl rfl (by omega) (by decide) d_M_move_145 h6 ?_
      first | refine xn_iadd hE d_M_move_146 ?_ | refine x_iadd hE d_M_move_146 ?_
      refine x_iconst (nI 1) hE d_M_move_147 (by decide) ?_
      first | refine xn_isub hE d_M_move_148 ?_ | refine x_isub hE d_M_move_148 ?_
      refine x_iald hc rfl rfl (by omega) (by decide) d_M_move_149 h11 ?_
      refine x_iload_n hE d_M_move_150 3 rfl ?_
      first | refine xn_icmp_eq hE d_M_move_151 (fun y => ?_) (fun y => ?_) | refine x_icmp_eq hE d_M_move_151 (fun y => ?_) (fun y => ?_)
      · skip
        exact rest K fl g σ (P u) hE hc hfl hg hat xm_one.rf rfl rfl rfl hxo (by rw [hgo]; unfold am_walk; rw [if_pos (by rw [hlast, y])])
      · exact find (by rw [hlast]; exact fun q => y (Option.some.inj q))
  refine xk_enter (by decide) (Nat.le_of_ble_eq_true rfl) (fun K hE hc => ?_)
  show xk_X K _ _ 0 [(0, _), (1, _)] []
  refine x_aload_n hE d_M_move_0 0 rfl ?_
  refine gf_M_41 hc d_M_move_1 ?_
  refine x_iload_n hE d_M_move_4 1 rfl ?_
  refine x_iald hc rfl rfl (by omega) (by decide) d_M_move_5 h3 ?_
  refine x_iconst (nI 2) hE d_M_move_6 (by decide) ?_
  first | refine xn_icmp_ne hE d_M_move_7 (fun ho2 => ?_) (fun ho2 => ?_) | refine x_icmp_ne hE d_M_move_7 (fun ho2 => ?_) (fun ho2 => ?_)
  · skip
    have ho1 : am_ord (P u) = 1 := by omega
    refine x_iconst (nI 0) hE d_M_move_14 (by decide) ?_
    refine x_istore_n [(2, _), (0, _), (1, _)] hE d_M_move_15 rfl (by decide) rfl ?_
    refine x_iload_n hE d_M_move_16 0 rfl ?_
    first | refine xn_if_eq hE d_M_move_17 (fun z => ?_) (fun z => ?_) | refine x_if_eq hE d_M_move_17 (fun z => ?_) (fun z => ?_)
    · skip
      have drop : (am_aim (P u) = am_til (P u) ∨ W (am_aim (P u)) = true) → xk_X K (xk_vw (xm G)) σ 66 [(2, .int (nI 0)), (0, .ref (xk_wA (xm G) 0)), (1, .int (nI u))] [] := by
        intro hd
        refine x_aload_n hE d_M_move_66 1 rfl ?_
        refine x_iload_n hE d_M_move_67 2 rfl ?_
        refine ca_M_121 hc d_M_move_68 (k_M_stop (by omega)) (fun τ hq => ?_)
        obtain rfl := hq
        obtain ⟨f1, f2⟩ := xm_drop_at hat
        exact x_ret hc d_M_move_71 (⟨by unfold am_go; rw [if_neg ho2, if_pos hd]; exact f1, f2⟩)
      refine x_aload_n hE d_M_move_37 1 rfl ?_
      refine gf_M_44 hc d_M_move_38 ?_
      refine x_iload_n hE d_M_move_41 2 rfl ?_
      refine x_iald hc rfl rfl (by omega) (by decide) d_M_move_42 h4 ?_
      refine x_aload_n hE d_M_move_43 1 rfl ?_
      refine gf_M_38 hc d_M_move_44 ?_
      refine x_iload_n hE d_M_move_47 2 rfl ?_
      refine x_iald hc rfl rfl (by omega) (by decide) d_M_move_48 (h2 ha) ?_
      first | refine xn_icmp_eq hE d_M_move_49 (fun y => ?_) (fun y => ?_) | refine x_icmp_eq hE d_M_move_49 (fun y => ?_) (fun y => ?_)
      · exact drop (Or.inl y)
      · skip
        refine x_aload_n hE d_M_move_52 1 rfl ?_
        refine gf_M_7 hc d_M_move_53 ?_
        refine x_aload_n hE d_M_move_56 1 rfl ?_
        refine gf_M_44 hc d_M_move_57 ?_
        refine x_iload_n hE d_M_move_60 2 rfl ?_
        refine x_iald hc rfl rfl (by omega) (by decide) d_M_move_61 h4 ?_
        refine x_zald hc rfl rfl (by omega) (by decide) d_M_move_62 (hW _ haim) ?_
        cases hw : W (am_aim (P u)) with
        | true =>
          first | refine xn_if_eq hE d_M_move_63 (fun w => ?_) (fun w => ?_) | refine x_if_eq hE d_M_move_63 (fun w => ?_) (fun w => ?_)
          · exact absurd w (by decide)
          · exact drop (Or.inr hw)
        | false =>
          first | refine xn_if_eq hE d_M_move_63 (fun w => ?_) (fun w => ?_) | refine x_if_eq hE d_M_move_63 (fun w => ?_) (fun w => ?_)
          · skip
            refine x_iload_n hE d_M_move_72 0 rfl ?_
            first | refine xn_if_eq hE d_M_move_73 (fun v => ?_) (fun v => ?_) | refine x_if_eq hE d_M_move_73 (fun v => ?_) (fun v => ?_)
            · skip
              refine x_aload_n hE d_M_move_90 1 rfl ?_
              refine gf_M_44 hc d_M_move_91 ?_
              refine x_iload_n hE d_M_move_94 2 rfl ?_
              refine x_iald hc rfl rfl (by omega) (by decide) d_M_move_95 h4 ?_
              refine x_istore_n [(3, _), (2, _), (0, _), (1, _)] hE d_M_move_96 rfl (by decide) rfl ?_
              refine x_iload_n hE d_M_move_97 1 rfl ?_
              first | refine xn_if_eq hE d_M_move_98 (fun s => ?_) (fun s => ?_) | refine x_if_eq hE d_M_move_98 (fun s => ?_) (fun s => ?_)
              · skip
                refine x_lv [2, 3, 1, 0] (lv' := [(0, _), (1, _), (2, _), (3, _)]) rfl ?_
                exact walk K 0 _ hE hc (by rw [if_neg ho2]) haim (by unfold am_go; rw [if_neg ho2, if_neg (by rw [hw]; simp [y])])
              · exact absurd rfl s
            · exact absurd rfl v
          · exact absurd rfl w
    · exact absurd rfl z
  · skip
    have haim2 := hxo.2.2.2.2.1 ho2
    have hat2 := hpl.2 _ haim2
    have hxo2 := hok _ haim2
    have hb2 := hxo2.1
    refine x_iconst (nI 1) hE d_M_move_10 (by decide) ?_
    refine x_goto hE d_M_move_11 ?_
    refine x_istore_n [(2, _), (0, _), (1, _)] hE d_M_move_15 rfl (by decide) rfl ?_
    refine x_iload_n hE d_M_move_16 0 rfl ?_
    first | refine xn_if_eq hE d_M_move_17 (fun z => ?_) (fun z => ?_) | refine x_if_eq hE d_M_move_17 (fun z => ?_) (fun z => ?_)
    · exact absurd z (by decide)
    · skip
      refine x_aload_n hE d_M_move_20 1 rfl ?_
      refine gf_M_35 hc d_M_move_21 ?_
      refine x_aload_n hE d_M_move_24 1 rfl ?_
      refine gf_M_44 hc d_M_move_25 ?_
      refine x_iload_n hE d_M_move_28 2 rfl ?_
      refine x_iald hc rfl rfl (by omega) (by decide) d_M_move_29 h4 ?_
      refine x_iald hc rfl rfl (by omega) (by decide) d_M_move_30 hat2.1 ?_
      first | refine xn_if_ne hE d_M_move_31 (fun y => ?_) (fun y => ?_) | refine x_if_ne hE d_M_move_31 (fun y => ?_) (fun y => ?_)
      · skip
        refine x_iload_n hE d_M_move_72 0 rfl ?_
        first | refine xn_if_eq hE d_M_move_73 (fun v => ?_) (fun v => ?_) | refine x_if_eq hE d_M_move_73 (fun v => ?_) (fun v => ?_)
        · exact absurd v (by decide)
        · skip
          have hg := hxo2.2.1
          refine x_aload_n hE d_M_move_76 1 rfl ?_
          refine gf_M_38 hc d_M_move_77 ?_
          refine x_aload_n hE d_M_move_80 1 rfl ?_
          refine gf_M_44 hc d_M_move_81 ?_
          refine x_iload_n hE d_M_move_84 2 rfl ?_
          refine x_iald hc rfl rfl (by omega) (by decide) d_M_move_85 h4 ?_
          refine x_iald hc rfl rfl (by omega) (by decide) d_M_move_86 (hat2.2.1 (by omega)) ?_
          refine x_goto hE d_M_move_87 ?_
          refine x_istore_n [(3, _), (2, _), (0, _), (1, _)] hE d_M_move_96 rfl (by decide) rfl ?_
          refine x_iload_n hE d_M_move_97 1 rfl ?_
          first | refine xn_if_eq hE d_M_move_98 (fun s => ?_) (fun s => ?_) | refine x_if_eq hE d_M_move_98 (fun s => ?_) (fun s => ?_)
          · exact absurd s (by decide)
          · skip
            refine x_aload_n hE d_M_move_101 2 rfl ?_
            refine gf_M_38 hc d_M_move_102 ?_
            refine x_iload_n hE d_M_move_105 3 rfl ?_
            refine x_iald hc rfl rfl (by omega) (by decide) d_M_move_106 (h2 ha) ?_
            refine x_iload_n hE d_M_move_107 0 rfl ?_
            refine ca_M_125 hc d_M_move_108 (k_M_distance htil hg) (fun r τ hq => ?_)
            obtain ⟨rfl, rfl⟩ := hq
            have hdl : am_dist (am_til (P u)) (am_til (P (am_aim (P u)))) < 2 ^ 31 := by unfold am_dist am_dif; omega
            refine x_iconst (nI 1) hE d_M_move_111 (by decide) ?_
            first | refine xn_icmp_ne hE d_M_move_112 (fun q => ?_) (fun q => ?_) | refine x_icmp_ne hE d_M_move_112 (fun q => ?_) (fun q => ?_)
            · skip
              refine x_lv [2, 3, 1, 0] (lv' := [(0, _), (1, _), (2, _), (3, _)]) rfl ?_
              exact walk K 1 _ hE hc (by rw [if_pos ho2]) hg (by unfold am_go; rw [if_pos ho2, if_neg y, if_neg q])
            · skip
              refine x_aload_n hE d_M_move_115 2 rfl ?_
              refine gf_M_53 hc d_M_move_116 ?_
              refine x_iload_n hE d_M_move_119 3 rfl ?_
              refine x_iconst (nI 0) hE d_M_move_120 (by decide) ?_
              refine x_iast hc rfl rfl (by omega) (by decide) d_M_move_121 ?_
              refine x_ret hc d_M_move_122 ⟨?_, xm_one.up (by decide) (by decide) (by decide)⟩
              unfold am_go
              rw [if_pos ho2, if_neg y, if_pos q]
              refine ⟨?_, ?_, ?_, ?_, ?_, ?_, Nat.zero_le _, fun i hi => absurd hi (Nat.not_lt_zero _)⟩
              all_goals simp (disch := omega) only [xk_up_s, xk_up_o]
              · exact h1
              · exact h2
              · exact h3
              · exact h4
              · exact h5
              · rfl
      · skip
        refine x_goto hE d_M_move_34 ?_
        refine x_aload_n hE d_M_move_66 1 rfl ?_
        refine x_iload_n hE d_M_move_67 2 rfl ?_
        refine ca_M_121 hc d_M_move_68 (k_M_stop (by omega)) (fun τ hq => ?_)
        obtain rfl := hq
        obtain ⟨f1, f2⟩ := xm_drop_at hat
        exact x_ret hc d_M_move_71 (⟨by unfold am_go; rw [if_pos ho2, if_pos y]; exact f1, f2⟩)
end XM3
