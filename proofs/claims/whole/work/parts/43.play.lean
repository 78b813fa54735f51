/-! THE REFERENCE: a tick -/
def xm_L (cnt : Nat) (L : am_L) (σ : xk_St) : Prop := σ.1 0 7 = nI cnt ∧ ∀ e, e < cnt → σ.1 5 e = (L e).1 ∧ σ.1 6 e = nI (L e).2.1 ∧ σ.1 7 e = nI (L e).2.2.1 ∧ σ.1 8 e = nI (L e).2.2.2
theorem xm_L.mv {cnt : Nat} {L : am_L} {σ τ : xk_St} (h : xm_L cnt L σ) (e : ∀ k, k < 9 → τ.1 k = σ.1 k) : xm_L cnt L τ := by
  unfold xm_L
  rw [e 0 (by omega), e 5 (by omega), e 6 (by omega), e 7 (by omega), e 8 (by omega)]
  exact h
section XM4
variable {G : xk_D} {σ : xk_St} {n u : Nat} {P : am_P} {W : Nat → Bool}
theorem k_M_obey (hn : n ≤ 8) (hpl : xm_pl n P σ) (hok : am_okP n P) {cnt : Nat} {L : am_L} {t : Int32} (hL : xm_L cnt L σ) (hLo : am_okL n cnt L) : xk_M (xm G) 0 y_M_obey [.ref (xk_wA (xm G) 0), .int t] σ (xk_pv (fun τ => xm_pl n (am_obey L t P cnt) τ ∧ xm_fr σ τ)) := by
  have hc24 := hLo.1
  refine xk_enter (by decide) (Nat.le_of_ble_eq_true rfl) (fun K hE hc => ?_)
  show xk_X K _ _ 0 [(0, _), (1, _)] []
  refine x_iconst (nI 0) hE d_M_obey_0 (by decide) ?_
  refine x_istore_n [(2, _), (0, _), (1, _)] hE d_M_obey_1 rfl (by decide) rfl ?_
  refine x_lv [1, 2, 0] (lv' := [(0, _), (1, _), (2, _)]) rfl ?_
  have loop : ∀ (m e : Nat) (τ : xk_St), e + m = cnt → xm_pl n (am_obey L t P e) τ → xm_fr σ τ → xk_X K (xk_vw (xm G)) τ 2 [(0, .ref (xk_wA (xm G) 0)), (1, .int t), (2, .int (nI e))] [] := by
    intro m
    induction m with
    | zero =>
      intro e τ he hpl2 hf
      have hL2 : xm_L cnt L τ := hL.mv (fun k hk => hf.2 k (by omega))
      refine x_iload_n hE d_M_obey_2 2 rfl ?_
      refine x_aload_n hE d_M_obey_3 0 rfl ?_
      refine gf_M_110 hc d_M_obey_4 hL2.1 ?_
      first | refine xn_icmp_ge hE d_M_obey_7 (fun h => ?_) (fun h => ?_) | refine x_icmp_ge hE d_M_obey_7 (fun h => ?_) (fun h => ?_)
      · skip
        have e0 : e = cnt := by omega
        subst e0
        exact x_ret hc d_M_obey_80 (⟨hpl2, hf⟩)
      · exact absurd h (by omega)
    | succ m ih =>
      intro e τ he hpl2 hf
      have hL2 : xm_L cnt L τ := hL.mv (fun k hk => hf.2 k (by omega))
      have hLe := hL2.2 e (by omega)
      obtain ⟨o1, o2, o3, o4⟩ := hLo.2 e (by omega)
      have hok2 := am_okP_obey (t := t) hok hLo e (by omega)
      have hat := hpl2.2 _ o1
      have hb := (hok2 _ o1).1
      have next : ∀ (τ2 : xk_St), xm_pl n (am_obey L t P (e + 1)) τ2 → xm_fr σ τ2 → xk_X K (xk_vw (xm G)) τ2 74 [(3, .int (nI (L e).2.1)), (0, .ref (xk_wA (xm G) 0)), (1, .int t), (2, .int (nI e))] [] := by
        intro τ2 g1 g2
        refine x_iinc 3 (nI (_ + 1)) [(2, _), (3, _), (0, _), (1, _)] hE d_M_obey_74 rfl (nI_inc _) (by decide) rfl ?_
        refine x_goto hE d_M_obey_77 ?_
        refine x_lv [2, 3, 0] (lv' := [(0, _), (1, _), (2, _)]) rfl ?_
        exact ih (e + 1) τ2 (by omega) g1 g2
      refine x_iload_n hE d_M_obey_2 2 rfl ?_
      refine x_aload_n hE d_M_obey_3 0 rfl ?_
      refine gf_M_110 hc d_M_obey_4 hL2.1 ?_
      first | refine xn_icmp_ge hE d_M_obey_7 (fun h => ?_) (fun h => ?_) | refine x_icmp_ge hE d_M_obey_7 (fun h => ?_) (fun h => ?_)
      · exact absurd h (by omega)
      · skip
        refine x_aload_n hE d_M_obey_10 0 rfl ?_
        refine gf_M_26 hc d_M_obey_11 ?_
        refine x_iload_n hE d_M_obey_14 2 rfl ?_
        refine x_iald hc rfl rfl (by omega) (by decide) d_M_obey_15 hLe.2.1 ?_
        refine x_istore_n [(3, _), (0, _), (1, _), (2, _)] hE d_M_obey_16 rfl (by decide) rfl ?_
        refine x_aload_n hE d_M_obey_17 1 rfl ?_
        refine gf_M_23 hc d_M_obey_18 ?_
        refine x_iload_n hE d_M_obey_21 3 rfl ?_
        refine x_iald hc rfl rfl (by omega) (by decide) d_M_obey_22 hLe.1 ?_
        refine x_iload_n hE d_M_obey_23 2 rfl ?_
        refine x_icmp_ne hE d_M_obey_24 (fun h2 => ?_) (fun h2 => ?_)
        · refine next τ ?_ hf
          simp only [am_obey]
          rw [if_neg (fun q => h2 q.1)]
          exact hpl2
        · skip
          refine x_aload_n hE d_M_obey_27 1 rfl ?_
          refine gf_M_35 hc d_M_obey_28 ?_
          refine x_iload_n hE d_M_obey_31 0 rfl ?_
          refine x_iald hc rfl rfl (by omega) (by decide) d_M_obey_32 hat.1 ?_
          first | refine xn_if_le hE d_M_obey_33 (fun h3 => ?_) (fun h3 => ?_) | refine x_if_le hE d_M_obey_33 (fun h3 => ?_) (fun h3 => ?_)
          · refine next τ ?_ hf
            simp only [am_obey]
            rw [if_neg (fun q => by omega)]
            exact hpl2
          · skip
            refine x_aload_n hE d_M_obey_36 1 rfl ?_
            refine gf_M_53 hc d_M_obey_37 ?_
            refine x_iload_n hE d_M_obey_40 0 rfl ?_
            refine x_iconst (nI 0) hE d_M_obey_41 (by decide) ?_
            refine x_iast hc rfl rfl (by omega) (by decide) d_M_obey_42 ?_
            refine x_aload_n hE d_M_obey_43 1 rfl ?_
            refine gf_M_47 hc d_M_obey_44 ?_
            refine x_iload_n hE d_M_obey_47 0 rfl ?_
            refine x_iconst (nI 0) hE d_M_obey_48 (by decide) ?_
            refine x_iast hc rfl rfl (by omega) (by decide) d_M_obey_49 ?_
            refine x_aload_n hE d_M_obey_50 1 rfl ?_
            refine gf_M_41 hc d_M_obey_51 ?_
            refine x_iload_n hE d_M_obey_54 0 rfl ?_
            refine x_aload_n hE d_M_obey_55 1 rfl ?_
            refine gf_M_29 hc d_M_obey_56 ?_
            refine x_iload_n hE d_M_obey_59 3 rfl ?_
            refine x_iald hc rfl rfl (by omega) (by decide) d_M_obey_60 (show _ = nI (L e).2.2.1 by rw [xk_up_o (by decide), xk_up_o (by decide)]; exact hLe.2.2.1) ?_
            refine x_iast hc rfl rfl (by omega) (by decide) d_M_obey_61 ?_
            refine x_aload_n hE d_M_obey_62 1 rfl ?_
            refine gf_M_44 hc d_M_obey_63 ?_
            refine x_iload_n hE d_M_obey_66 0 rfl ?_
            refine x_aload_n hE d_M_obey_67 1 rfl ?_
            refine gf_M_32 hc d_M_obey_68 ?_
            refine x_iload_n hE d_M_obey_71 3 rfl ?_
            refine x_iald hc rfl rfl (by omega) (by decide) d_M_obey_72 (show _ = nI (L e).2.2.2 by rw [xk_up_o (by decide), xk_up_o (by decide), xk_up_o (by decide)]; exact hLe.2.2.2) ?_
            refine x_iast hc rfl rfl (by omega) (by decide) d_M_obey_73 ?_
            have hone : xm_one (L e).2.1 τ (xk_up (xk_up (xk_up (xk_up τ 15 (L e).2.1 (nI 0)) 13 (L e).2.1 (nI 0)) 11 (L e).2.1 (nI (L e).2.2.1)) 12 (L e).2.1 (nI (L e).2.2.2)) := (((xm_one.up (by decide) (by decide) (by decide)).tr (xm_one.up (by decide) (by decide) (by decide))).tr (xm_one.up (by decide) (by decide) (by decide))).tr (xm_one.up (by decide) (by decide) (by decide))
            refine next _ ?_ (hf.tr hone.fr)
            simp only [am_obey]
            rw [if_pos ⟨h2, h3⟩]
            refine hpl2.set ?_ hone
            obtain ⟨h1, h2, h3, h4, h5, h6, h7, h8⟩ := hat
            refine ⟨?_, ?_, ?_, ?_, ?_, ?_, Nat.zero_le _, fun i hi => absurd hi (Nat.not_lt_zero _)⟩
            all_goals simp (disch := omega) only [xk_up_s, xk_up_o]
            · exact h1
            · exact h2
            · rfl
            · rfl
            · rfl
            · rfl
  exact loop cnt 0 σ (by omega) hpl xm_fr.rf
theorem k_M_fight (hn : n ≤ 8) (hpl : xm_pl n P σ) (hok : am_okP n P) : xk_M (xm G) 1 y_M_fight [.ref (xk_wA (xm G) 0)] σ (xk_pv (fun τ => xm_pl n (am_blow n P) τ ∧ (∀ u, u < n → τ.1 26 u = nI (am_lost P n u)) ∧ xm_fr σ τ)) := by
  refine xk_enter (by decide) (Nat.le_of_ble_eq_true rfl) (fun K hE hc => ?_)
  show xk_X K _ _ 0 [(0, _)] []
  refine x_iconst (nI 0) hE d_M_fight_0 (by decide) ?_
  refine x_istore_n [(1, _), (0, _)] hE d_M_fight_1 rfl (by decide) rfl ?_
  refine x_lv [1, 0] (lv' := [(0, _), (1, _)]) rfl ?_
  have third : ∀ (m u : Nat) (τ : xk_St), u + m = n → xm_pl n (fun v => if v < u then am_hurt (P v) (am_lost P n v) else P v) τ → (∀ v, v < n → τ.1 26 v = nI (am_lost P n v)) → xm_fr σ τ → xk_X K (xk_vw (xm G)) τ 123 [(0, .ref (xk_wA (xm G) 0)), (1, .int (nI u))] [] := by
    intro m
    induction m with
    | zero =>
      intro u τ hu hpl2 hlo hf
      refine x_iload_n hE d_M_fight_123 1 rfl ?_
      refine x_aload_n hE d_M_fight_124 0 rfl ?_
      refine gf_M_89 hc d_M_fight_125 hpl2.1 ?_
      first | refine xn_icmp_ge hE d_M_fight_128 (fun h => ?_) (fun h => ?_) | refine x_icmp_ge hE d_M_fight_128 (fun h => ?_) (fun h => ?_)
      · skip
        have e0 : u = n := by omega
        subst e0
        exact x_ret hc d_M_fight_228 (⟨hpl2, hlo, hf⟩)
      · exact absurd h (by omega)
    | succ m ih =>
      intro u τ hu hpl2 hlo hf
      have hat := hpl2.2 u (by omega)
      simp only [Nat.lt_irrefl, if_false] at hat
      have hx := hok u (by omega)
      have hb := hx.1
      have hle := am_lost_le P n u
      have hlo1 := hlo u (by omega)
      obtain ⟨h1, h2, h3, h4, h5, h6, h7, h8⟩ := hat
      have next : ∀ (τ2 : xk_St) (w : Int32), xm_at τ2 u (am_hurt (P u) (am_lost P n u)) → xm_one u τ τ2 → xk_X K (xk_vw (xm G)) τ2 222 [(2, .int w), (0, .ref (xk_wA (xm G) 0)), (1, .int (nI u))] [] := by
        intro τ2 w g1 g2
        refine x_iinc 2 (nI (_ + 1)) [(1, _), (2, _), (0, _)] hE d_M_fight_222 rfl (nI_inc _) (by decide) rfl ?_
        refine x_goto hE d_M_fight_225 ?_
        refine x_lv [2, 0] (lv' := [(0, _), (1, _)]) rfl ?_
        refine ih (u + 1) τ2 (by omega) ?_ (fun v hv => by rw [g2.2.1 26 (by omega)]; exact hlo v hv) (hf.tr g2.fr)
        have h5 := hpl2.set g1 g2
        have e5 : (am_set (fun v => if v < u then am_hurt (P v) (am_lost P n v) else P v) u (am_hurt (P u) (am_lost P n u))) = (fun v => if v < u + 1 then am_hurt (P v) (am_lost P n v) else P v) := by
          funext v
          by_cases e : v = u
          · subst e; rw [am_set_s, if_pos (by omega)]
          · rw [am_set_n e]
            by_cases e2 : v < u
            · rw [if_pos e2, if_pos (by omega)]
            · rw [if_neg e2, if_neg (by omega)]
        rw [e5] at h5
        exact h5
      have store : ∀ (w v : Nat), v = am_pts (P u) - am_lost P n u → w = (if 0 < am_pts (P u) ∧ am_pts (P u) ≤ am_lost P n u then 1 else 0) → xk_X K (xk_vw (xm G)) τ 198 [(2, .int (nI w)), (0, .ref (xk_wA (xm G) 0)), (1, .int (nI u))] [.int (nI v), .int (nI u), .ref (xk_wA (xm G) 9)] := by
        intro w v hv hw
        have hone1 : xm_one u τ (xk_up τ 9 u (nI v)) := xm_one.up (by decide) (by decide) (by decide)
        have hw2 : w < 2 := by rw [hw]; split <;> omega
        refine x_iast hc rfl rfl (by omega) (by decide) d_M_fight_198 ?_
        refine x_iload_n hE d_M_fight_199 0 rfl ?_
        first | refine xn_if_eq hE d_M_fight_200 (fun z => ?_) (fun z => ?_) | refine x_if_eq hE d_M_fight_200 (fun z => ?_) (fun z => ?_)
        · skip
          refine next _ _ ?_ hone1
          have hno : ¬ (0 < am_pts (P u) ∧ am_pts (P u) ≤ am_lost P n u) := fun q => by rw [if_pos q] at hw; omega
          unfold am_hurt
          by_cases hd : am_pts (P u) ≤ am_lost P n u
          · rw [if_pos hd]
            obtain ⟨d1, d2, d3, d4⟩ := hx.2.2.2.2.2.2.2.2 (by omega)
            rw [d1] at h3
            rw [d2] at h4
            rw [d3] at h5
            rw [d4] at h6
            refine ⟨?_, fun q => absurd q (Nat.lt_irrefl 0), ?_, ?_, ?_, ?_, Nat.zero_le _, fun i hi => absurd hi (Nat.not_lt_zero _)⟩
            all_goals simp (disch := omega) only [xk_up_s, xk_up_o]
            · show nI v = nI 0
              congr 1
              omega
            · exact h3
            · exact h4
            · exact h5
            · exact h6
          · rw [if_neg hd]
            refine ⟨?_, fun _ => ?_, ?_, ?_, ?_, ?_, h7, fun i hi => ?_⟩
            all_goals simp (disch := omega) only [xk_up_s, xk_up_o]
            · show nI v = nI (am_pts (P u) - am_lost P n u)
              rw [hv]
            · exact h2 (by omega)
            · exact h3
            · exact h4
            · exact h5
            · exact h6
            · exact h8 i hi
        · skip
          have hyes : 0 < am_pts (P u) ∧ am_pts (P u) ≤ am_lost P n u := Classical.byContradiction (fun q => by rw [if_neg q] at hw; omega)
          refine x_aload_n hE d_M_fight_203 1 rfl ?_
          refine x_iload_n hE d_M_fight_204 2 rfl ?_
          refine ca_M_121 hc d_M_fight_205 (k_M_stop (by omega)) (fun τ hq => ?_)
          obtain rfl := hq
          refine x_aload_n hE d_M_fight_208 1 rfl ?_
          refine gf_M_53 hc d_M_fight_209 ?_
          refine x_iload_n hE d_M_fight_212 2 rfl ?_
          refine x_iconst (nI 0) hE d_M_fight_213 (by decide) ?_
          refine x_iast hc rfl rfl (by omega) (by decide) d_M_fight_214 ?_
          refine x_aload_n hE d_M_fight_215 1 rfl ?_
          refine gf_M_47 hc d_M_fight_216 ?_
          refine x_iload_n hE d_M_fight_219 2 rfl ?_
          refine x_iconst (nI 0) hE d_M_fight_220 (by decide) ?_
          refine x_iast hc rfl rfl (by omega) (by decide) d_M_fight_221 ?_
          refine next _ _ ?_ ((((hone1.tr (xm_one.up (by decide) (by decide) (by decide))).tr (xm_one.up (by decide) (by decide) (by decide))).tr (xm_one.up (by decide) (by decide) (by decide))).tr (xm_one.up (by decide) (by decide) (by decide)))
          unfold am_hurt
          rw [if_pos hyes.2]
          refine ⟨?_, fun q => absurd q (Nat.lt_irrefl 0), ?_, ?_, ?_, ?_, Nat.zero_le _, fun i hi => absurd hi (Nat.not_lt_zero _)⟩
          all_goals simp (disch := omega) only [xk_up_s, xk_up_o]
          · show nI v = nI 0
            congr 1
            omega
          · rfl
          · rfl
          · rfl
          · rfl
      have sub : ∀ (w : Nat), w = (if 0 < am_pts (P u) ∧ am_pts (P u) ≤ am_lost P n u then 1 else 0) → xk_X K (xk_vw (xm G)) τ 160 [(0, .ref (xk_wA (xm G) 0)), (1, .int (nI u))] [.int (nI w)] := by
        intro w hw
        refine x_istore_n [(2, _), (0, _), (1, _)] hE d_M_fight_160 rfl (by decide) rfl ?_
        refine x_aload_n hE d_M_fight_161 1 rfl ?_
        refine gf_M_35 hc d_M_fight_162 ?_
        refine x_iload_n hE d_M_fight_165 2 rfl ?_
        refine x_aload_n hE d_M_fight_166 1 rfl ?_
        refine gf_M_35 hc d_M_fight_167 ?_
        refine x_iload_n hE d_M_fight_170 2 rfl ?_
        refine x_iald hc rfl rfl (by omega) (by decide) d_M_fight_171 h1 ?_
        refine x_aload_n hE d_M_fight_172 1 rfl ?_
        refine gf_M_86 hc d_M_fight_173 ?_
        refine x_iload_n hE d_M_fight_176 2 rfl ?_
        refine x_iald hc rfl rfl (by omega) (by decide) d_M_fight_177 hlo1 ?_
        first | refine xn_icmp_le hE d_M_fight_178 (fun z => ?_) (fun z => ?_) | refine x_icmp_le hE d_M_fight_178 (fun z => ?_) (fun z => ?_)
        · skip
          refine x_iconst (nI 0) hE d_M_fight_197 (by decide) ?_
          exact store w 0 (by omega) hw
        · skip
          refine x_aload_n hE d_M_fight_181 1 rfl ?_
          refine gf_M_35 hc d_M_fight_182 ?_
          refine x_iload_n hE d_M_fight_185 2 rfl ?_
          refine x_iald hc rfl rfl (by omega) (by decide) d_M_fight_186 h1 ?_
          refine x_aload_n hE d_M_fight_187 1 rfl ?_
          refine gf_M_86 hc d_M_fight_188 ?_
          refine x_iload_n hE d_M_fight_191 2 rfl ?_
          refine x_iald hc rfl rfl (by omega) (by decide) d_M_fight_192 hlo1 ?_
          first | refine xn_isub hE d_M_fight_193 ?_ | refine x_isub hE d_M_fight_193 ?_
          refine x_goto hE d_M_fight_194 ?_
          exact store w _ rfl hw
      refine x_iload_n hE d_M_fight_123 1 rfl ?_
      refine x_aload_n hE d_M_fight_124 0 rfl ?_
      refine gf_M_89 hc d_M_fight_125 hpl2.1 ?_
      first | refine xn_icmp_ge hE d_M_fight_128 (fun h => ?_) (fun h => ?_) | refine x_icmp_ge hE d_M_fight_128 (fun h => ?_) (fun h => ?_)
      · exact absurd h (by omega)
      · skip
        refine x_aload_n hE d_M_fight_131 0 rfl ?_
        refine gf_M_35 hc d_M_fight_132 ?_
        refine x_iload_n hE d_M_fight_135 1 rfl ?_
        refine x_iald hc rfl rfl (by omega) (by decide) d_M_fight_136 h1 ?_
        first | refine xn_if_le hE d_M_fight_137 (fun z => ?_) (fun z => ?_) | refine x_if_le hE d_M_fight_137 (fun z => ?_) (fun z => ?_)
        · skip
          refine x_iconst (nI 0) hE d_M_fight_159 (by decide) ?_
          exact sub 0 (by rw [if_neg (by omega)])
        · skip
          refine x_aload_n hE d_M_fight_140 0 rfl ?_
          refine gf_M_35 hc d_M_fight_141 ?_
          refine x_iload_n hE d_M_fight_144 1 rfl ?_
          refine x_iald hc rfl rfl (by omega) (by decide) d_M_fight_145 h1 ?_
          refine x_aload_n hE d_M_fight_146 0 rfl ?_
          refine gf_M_86 hc d_M_fight_147 ?_
          refine x_iload_n hE d_M_fight_150 1 rfl ?_
          refine x_iald hc rfl rfl (by omega) (by decide) d_M_fight_151 hlo1 ?_
          first | refine xn_icmp_gt hE d_M_fight_152 (fun y => ?_) (fun y => ?_) | refine x_icmp_gt hE d_M_fight_152 (fun y => ?_) (fun y => ?_)
          · skip
            refine x_iconst (nI 0) hE d_M_fight_159 (by decide) ?_
            exact sub 0 (by rw [if_neg (by omega)])
          · skip
            refine x_iconst (nI 1) hE d_M_fight_155 (by decide) ?_
            refine x_goto hE d_M_fight_156 ?_
            exact sub 1 (by rw [if_pos (by omega)])
  have second : ∀ (m u : Nat) (τ : xk_St), u + m = n → (∀ v, v < n → τ.1 26 v = nI (am_lost P u v)) → τ.2 = σ.2 → (∀ k, k ≠ 26 → τ.1 k = σ.1 k) → xk_X K (xk_vw (xm G)) τ 25 [(0, .ref (xk_wA (xm G) 0)), (1, .int (nI u))] [] := by
    intro m
    induction m with
    | zero =>
      intro u τ hu hlo h2 hk
      have hpl2 : xm_pl n P τ := hpl.mv (fun k hk2 => hk k (by omega))
      refine x_iload_n hE d_M_fight_25 1 rfl ?_
      refine x_aload_n hE d_M_fight_26 0 rfl ?_
      refine gf_M_89 hc d_M_fight_27 hpl2.1 ?_
      first | refine xn_icmp_ge hE d_M_fight_30 (fun h => ?_) (fun h => ?_) | refine x_icmp_ge hE d_M_fight_30 (fun h => ?_) (fun h => ?_)
      · skip
        refine x_iconst (nI 0) hE d_M_fight_121 (by decide) ?_
        refine x_istore_n [(1, _), (0, _)] hE d_M_fight_122 rfl (by decide) rfl ?_
        refine x_lv [1, 0] (lv' := [(0, _), (1, _)]) rfl ?_
        have e0 : u = n := by omega
        subst e0
        refine third u 0 τ (by omega) ?_ hlo ⟨h2, fun k hk2 => hk k (by omega)⟩
        simp only [Nat.not_lt_zero, if_false]
        exact hpl2
      · exact absurd h (by omega)
    | succ m ih =>
      intro u τ hu hlo h2 hk
      have hpl2 : xm_pl n P τ := hpl.mv (fun k hk2 => hk k (by omega))
      have hat := hpl2.2 u (by omega)
      have hx := hok u (by omega)
      have ho := hx.2.2.1
      have hb := hx.1
      have next : ∀ (τ2 : xk_St) (w : Int32), (∀ v, v < n → τ2.1 26 v = nI (am_lost P (u + 1) v)) → τ2.2 = σ.2 → (∀ k, k ≠ 26 → τ2.1 k = σ.1 k) → xk_X K (xk_vw (xm G)) τ2 115 [(2, .int w), (0, .ref (xk_wA (xm G) 0)), (1, .int (nI u))] [] := by
        intro τ2 w g1 g2 g3
        refine x_iinc 2 (nI (_ + 1)) [(1, _), (2, _), (0, _)] hE d_M_fight_115 rfl (nI_inc _) (by decide) rfl ?_
        refine x_goto hE d_M_fight_118 ?_
        refine x_lv [2, 0] (lv' := [(0, _), (1, _)]) rfl ?_
        exact ih (u + 1) τ2 (by omega) g1 g2 g3
      have skip : am_hits P u = false → xk_X K (xk_vw (xm G)) τ 94 [(0, .ref (xk_wA (xm G) 0)), (1, .int (nI u))] [] := by
        intro hh
        refine x_iconst (nI 0) hE d_M_fight_94 (by decide) ?_
        refine x_istore_n [(2, _), (0, _), (1, _)] hE d_M_fight_95 rfl (by decide) rfl ?_
        refine x_iload_n hE d_M_fight_96 0 rfl ?_
        first | refine xn_if_eq hE d_M_fight_97 (fun z => ?_) (fun z => ?_) | refine x_if_eq hE d_M_fight_97 (fun z => ?_) (fun z => ?_)
        · refine next τ _ (fun v hv => ?_) h2 hk
          simp only [am_lost]
          rw [hh, if_neg (by simp)]
          exact hlo v hv
        · exact absurd rfl z
      refine x_iload_n hE d_M_fight_25 1 rfl ?_
      refine x_aload_n hE d_M_fight_26 0 rfl ?_
      refine gf_M_89 hc d_M_fight_27 hpl2.1 ?_
      first | refine xn_icmp_ge hE d_M_fight_30 (fun h => ?_) (fun h => ?_) | refine x_icmp_ge hE d_M_fight_30 (fun h => ?_) (fun h => ?_)
      · exact absurd h (by omega)
      · skip
        refine x_aload_n hE d_M_fight_33 0 rfl ?_
        refine gf_M_35 hc d_M_fight_34 ?_
        refine x_iload_n hE d_M_fight_37 1 rfl ?_
        refine x_iald hc rfl rfl (by omega) (by decide) d_M_fight_38 hat.1 ?_
        first | refine xn_if_le hE d_M_fight_39 (fun hz => ?_) (fun hz => ?_) | refine x_if_le hE d_M_fight_39 (fun hz => ?_) (fun hz => ?_)
        · refine skip ?_
          have := (hx.2.2.2.2.2.2.2.2 hz).1
          simp [am_hits, this]
        · skip
          refine x_aload_n hE d_M_fight_42 0 rfl ?_
          refine gf_M_41 hc d_M_fight_43 ?_
          refine x_iload_n hE d_M_fight_46 1 rfl ?_
          refine x_iald hc rfl rfl (by omega) (by decide) d_M_fight_47 hat.2.2.1 ?_
          refine x_iconst (nI 2) hE d_M_fight_48 (by decide) ?_
          first | refine xn_icmp_ne hE d_M_fight_49 (fun ho2 => ?_) (fun ho2 => ?_) | refine x_icmp_ne hE d_M_fight_49 (fun ho2 => ?_) (fun ho2 => ?_)
          · exact skip (by simp [am_hits, ho2])
          · skip
            have haim := hx.2.2.2.2.1 ho2
            have haty := hpl2.2 _ haim
            have hy := hok _ haim
            have hby := hy.1
            refine x_aload_n hE d_M_fight_52 0 rfl ?_
            refine gf_M_35 hc d_M_fight_53 ?_
            refine x_aload_n hE d_M_fight_56 0 rfl ?_
            refine gf_M_44 hc d_M_fight_57 ?_
            refine x_iload_n hE d_M_fight_60 1 rfl ?_
            refine x_iald hc rfl rfl (by omega) (by decide) d_M_fight_61 hat.2.2.2.1 ?_
            refine x_iald hc rfl rfl (by omega) (by decide) d_M_fight_62 haty.1 ?_
            first | refine xn_if_le hE d_M_fight_63 (fun h3 => ?_) (fun h3 => ?_) | refine x_if_le hE d_M_fight_63 (fun h3 => ?_) (fun h3 => ?_)
            · exact skip (by simp [am_hits, h3])
            · skip
              refine x_aload_n hE d_M_fight_66 0 rfl ?_
              refine gf_M_38 hc d_M_fight_67 ?_
              refine x_iload_n hE d_M_fight_70 1 rfl ?_
              refine x_iald hc rfl rfl (by omega) (by decide) d_M_fight_71 (hat.2.1 hz) ?_
              refine x_aload_n hE d_M_fight_72 0 rfl ?_
              refine gf_M_38 hc d_M_fight_73 ?_
              refine x_aload_n hE d_M_fight_76 0 rfl ?_
              refine gf_M_44 hc d_M_fight_77 ?_
              refine x_iload_n hE d_M_fight_80 1 rfl ?_
              refine x_iald hc rfl rfl (by omega) (by decide) d_M_fight_81 hat.2.2.2.1 ?_
              refine x_iald hc rfl rfl (by omega) (by decide) d_M_fight_82 (haty.2.1 h3) ?_
              refine ca_M_125 hc d_M_fight_83 (k_M_distance hx.2.1 hy.2.1) (fun r τ hq => ?_)
              obtain ⟨rfl, rfl⟩ := hq
              have hdl : am_dist (am_til (P u)) (am_til (P (am_aim (P u)))) < 2 ^ 31 := by
                have h1 := hx.2.1
                have h2 := hy.2.1
                unfold am_dist am_dif
                omega
              refine x_iconst (nI 1) hE d_M_fight_86 (by decide) ?_
              first | refine xn_icmp_ne hE d_M_fight_87 (fun h4 => ?_) (fun h4 => ?_) | refine x_icmp_ne hE d_M_fight_87 (fun h4 => ?_) (fun h4 => ?_)
              · exact skip (by simp [am_hits, h4])
              · skip
                have hh : am_hits P u = true := by simp [am_hits, ho2, h3, h4]
                have hle := am_lost_le P u (am_aim (P u))
                refine x_iconst (nI 1) hE d_M_fight_90 (by decide) ?_
                refine x_goto hE d_M_fight_91 ?_
                refine x_istore_n [(2, _), (0, _), (1, _)] hE d_M_fight_95 rfl (by decide) rfl ?_
                refine x_iload_n hE d_M_fight_96 0 rfl ?_
                first | refine xn_if_eq hE d_M_fight_97 (fun z => ?_) (fun z => ?_) | refine x_if_eq hE d_M_fight_97 (fun z => ?_) (fun z => ?_)
                · exact absurd z (by decide)
                · skip
                  refine x_aload_n hE d_M_fight_100 1 rfl ?_
                  refine gf_M_86 hc d_M_fight_101 ?_
                  refine x_aload_n hE d_M_fight_104 1 rfl ?_
                  refine gf_M_44 hc d_M_fight_105 ?_
                  refine x_iload_n hE d_M_fight_108 2 rfl ?_
                  refine x_iald hc rfl rfl (by omega) (by decide) d_M_fight_109 hat.2.2.2.1 ?_
                  refine x_dup2 hE d_M_fight_110 rfl rfl ?_
                  refine x_iald hc rfl rfl (by omega) (by decide) d_M_fight_111 (hlo _ haim) ?_
                  refine x_iconst (nI 3) hE d_M_fight_112 (by decide) ?_
                  first | refine xn_iadd hE d_M_fight_113 ?_ | refine x_iadd hE d_M_fight_113 ?_
                  refine x_iast hc rfl rfl (by omega) (by decide) d_M_fight_114 ?_
                  refine next _ _ (fun v hv => ?_) h2 (fun k hk2 => by rw [xk_up_o hk2]; exact hk k hk2)
                  simp only [am_lost]
                  rw [hh, if_pos rfl, xk_up_s]
                  by_cases e : v = am_aim (P u)
                  · subst e; rw [if_pos rfl, am_set_s]
                  · rw [if_neg e, am_set_n e]; exact hlo v hv
  have first : ∀ (m u : Nat) (τ : xk_St), u + m = n → (∀ v, v < u → τ.1 26 v = nI 0) → τ.2 = σ.2 → (∀ k, k ≠ 26 → τ.1 k = σ.1 k) → xk_X K (xk_vw (xm G)) τ 2 [(0, .ref (xk_wA (xm G) 0)), (1, .int (nI u))] [] := by
    intro m
    induction m with
    | zero =>
      intro u τ hu hlo h2 hk
      have hc2 : τ.1 0 1 = nI n := by rw [hk 0 (by decide)]; exact hpl.1
      refine x_iload_n hE d_M_fight_2 1 rfl ?_
      refine x_aload_n hE d_M_fight_3 0 rfl ?_
      refine gf_M_89 hc d_M_fight_4 hc2 ?_
      first | refine xn_icmp_ge hE d_M_fight_7 (fun h => ?_) (fun h => ?_) | refine x_icmp_ge hE d_M_fight_7 (fun h => ?_) (fun h => ?_)
      · skip
        refine x_iconst (nI 0) hE d_M_fight_23 (by decide) ?_
        refine x_istore_n [(1, _), (0, _)] hE d_M_fight_24 rfl (by decide) rfl ?_
        refine x_lv [1, 0] (lv' := [(0, _), (1, _)]) rfl ?_
        exact second n 0 τ (by omega) (fun v hv => hlo v (by omega)) h2 hk
      · exact absurd h (by omega)
    | succ m ih =>
      intro u τ hu hlo h2 hk
      have hc2 : τ.1 0 1 = nI n := by rw [hk 0 (by decide)]; exact hpl.1
      refine x_iload_n hE d_M_fight_2 1 rfl ?_
      refine x_aload_n hE d_M_fight_3 0 rfl ?_
      refine gf_M_89 hc d_M_fight_4 hc2 ?_
      first | refine xn_icmp_ge hE d_M_fight_7 (fun h => ?_) (fun h => ?_) | refine x_icmp_ge hE d_M_fight_7 (fun h => ?_) (fun h => ?_)
      · exact absurd h (by omega)
      · skip
        refine x_aload_n hE d_M_fight_10 0 rfl ?_
        refine gf_M_86 hc d_M_fight_11 ?_
        refine x_iload_n hE d_M_fight_14 1 rfl ?_
        refine x_iconst (nI 0) hE d_M_fight_15 (by decide) ?_
        refine x_iast hc rfl rfl (by omega) (by decide) d_M_fight_16 ?_
        refine x_iinc 1 (nI (_ + 1)) [(1, _), (0, _)] hE d_M_fight_17 rfl (nI_inc _) (by decide) rfl ?_
        refine x_goto hE d_M_fight_20 ?_
        refine x_lv [1, 0] (lv' := [(0, _), (1, _)]) rfl ?_
        refine ih (u + 1) _ (by omega) (fun v hv => ?_) h2 (fun k hk2 => by rw [xk_up_o hk2]; exact hk k hk2)
        rw [xk_up_s]
        by_cases e : v = u
        · rw [if_pos e]
        · rw [if_neg e]; exact hlo v (by omega)
  exact first n 0 σ (by omega) (fun v hv => absurd hv (Nat.not_lt_zero _)) rfl (fun _ _ => rfl)
theorem xm_pl.cong {Q : am_P} (h : xm_pl n P σ) (e : ∀ u, u < n → P u = Q u) : xm_pl n Q σ := ⟨h.1, fun u hu => by rw [← e u hu]; exact h.2 u hu⟩
theorem k_M_play (hn : n ≤ 8) (hpl : xm_pl n P σ) (hok : am_okP n P) (hW : xm_W W σ) {cnt t : Nat} {L : am_L} (ht : t < 2 ^ 31) (hL : xm_L cnt L σ) (hLo : am_okL n cnt L) : xk_M (xm G) 4 y_M_play [.ref (xk_wA (xm G) 0), .int (nI t)] σ (xk_pi (fun r τ => r = am_num W n cnt L t P ∧ xm_pl n (am_tick W n cnt L t P) τ ∧ xm_fr σ τ)) := by
  refine xk_enter (by decide) (Nat.le_of_ble_eq_true rfl) (fun K hE hc => ?_)
  show xk_X K _ _ 0 [(0, _), (1, _)] []
  refine x_aload_n hE d_M_play_0 0 rfl ?_
  refine x_iload_n hE d_M_play_1 1 rfl ?_
  refine ca_M_136 hc d_M_play_2 (k_M_obey hn hpl hok hL hLo) (fun τ hq => ?_)
  obtain ⟨o1, o2⟩ := hq
  have hokO := am_okP_obey (t := nI t) hok hLo cnt (Nat.le_refl _)
  refine x_iconst (nI 0) hE d_M_play_5 (by decide) ?_
  refine x_istore_n [(2, _), (0, _), (1, _)] hE d_M_play_6 rfl (by decide) rfl ?_
  refine x_lv [1, 2, 0] (lv' := [(0, _), (1, _), (2, _)]) rfl ?_
  have hash : ∀ (m u : Nat) (τ : xk_St), u + m = n → xm_pl n (am_tick W n cnt L t P) τ → xm_fr σ τ → xk_X K (xk_vw (xm G)) τ 124 [(0, .ref (xk_wA (xm G) 0)), (1, .int (nI t)), (2, .int (am_sum (am_tick W n cnt L t P) u)), (3, .int (nI u))] [] := by
    intro m
    induction m with
    | zero =>
      intro u τ hu h1 h2
      refine x_iload_n hE d_M_play_124 3 rfl ?_
      refine x_aload_n hE d_M_play_125 0 rfl ?_
      refine gf_M_89 hc d_M_play_126 h1.1 ?_
      first | refine xn_icmp_ge hE d_M_play_129 (fun h => ?_) (fun h => ?_) | refine x_icmp_ge hE d_M_play_129 (fun h => ?_) (fun h => ?_)
      · skip
        refine x_iload_n hE d_M_play_195 2 rfl ?_
        have e0 : u = n := by omega
        subst e0
        exact x_iret hc d_M_play_196 (⟨rfl, h1, h2⟩)
      · exact absurd h (by omega)
    | succ m ih =>
      intro u τ hu h1 h2
      have hat := h1.2 u (by omega)
      have hb := (am_okP_tick (W := W) (t := t) hok hLo u (by omega)).1
      have next : ∀ v : Int32, v = (if am_pts (am_tick W n cnt L t P u) = 0 then nI 0 else nI (am_til (am_tick W n cnt L t P u))) → xk_X K (xk_vw (xm G)) τ 165 [(0, .ref (xk_wA (xm G) 0)), (1, .int (nI t)), (2, .int (am_sum (am_tick W n cnt L t P) u)), (3, .int (nI u))] [.int v, .int (nI 31 * am_sum (am_tick W n cnt L t P) u + nI 64 * nI (am_pts (am_tick W n cnt L t P u)))] := by
        intro v hv
        refine x_iadd hE d_M_play_165 ?_
        refine x_istore_n [(2, _), (0, _), (1, _), (3, _)] hE d_M_play_166 rfl (by decide) rfl ?_
        refine x_bipush (nI 31) hE d_M_play_167 (by decide) ?_
        refine x_iload_n hE d_M_play_169 0 rfl ?_
        refine x_imul hE d_M_play_170 ?_
        refine x_bipush (nI 8) hE d_M_play_171 (by decide) ?_
        refine x_aload_n hE d_M_play_173 1 rfl ?_
        refine gf_M_47 hc d_M_play_174 ?_
        refine x_iload_n hE d_M_play_177 3 rfl ?_
        refine x_iald hc rfl rfl (by omega) (by decide) d_M_play_178 hat.2.2.2.2.1 ?_
        refine x_imul hE d_M_play_179 ?_
        refine x_iadd hE d_M_play_180 ?_
        refine x_aload_n hE d_M_play_181 1 rfl ?_
        refine gf_M_41 hc d_M_play_182 ?_
        refine x_iload_n hE d_M_play_185 3 rfl ?_
        refine x_iald hc rfl rfl (by omega) (by decide) d_M_play_186 hat.2.2.1 ?_
        refine x_iadd hE d_M_play_187 ?_
        refine x_istore_n [(2, _), (0, _), (1, _), (3, _)] hE d_M_play_188 rfl (by decide) rfl ?_
        refine x_iinc 3 (nI (_ + 1)) [(3, _), (2, _), (0, _), (1, _)] hE d_M_play_189 rfl (nI_inc _) (by decide) rfl ?_
        refine x_goto hE d_M_play_192 ?_
        refine x_lv [2, 3, 1, 0] (lv' := [(0, _), (1, _), (2, _), (3, _)]) rfl ?_
        have e9 := ih (u + 1) τ (by omega) h1 h2
        simp only [am_sum] at e9
        rw [hv]
        exact e9
      refine x_iload_n hE d_M_play_124 3 rfl ?_
      refine x_aload_n hE d_M_play_125 0 rfl ?_
      refine gf_M_89 hc d_M_play_126 h1.1 ?_
      first | refine xn_icmp_ge hE d_M_play_129 (fun h => ?_) (fun h => ?_) | refine x_icmp_ge hE d_M_play_129 (fun h => ?_) (fun h => ?_)
      · exact absurd h (by omega)
      · skip
        refine x_bipush (nI 31) hE d_M_play_132 (by decide) ?_
        refine x_iload_n hE d_M_play_134 2 rfl ?_
        refine x_imul hE d_M_play_135 ?_
        refine x_bipush (nI 64) hE d_M_play_136 (by decide) ?_
        refine x_aload_n hE d_M_play_138 0 rfl ?_
        refine gf_M_35 hc d_M_play_139 ?_
        refine x_iload_n hE d_M_play_142 3 rfl ?_
        refine x_iald hc rfl rfl (by omega) (by decide) d_M_play_143 hat.1 ?_
        refine x_imul hE d_M_play_144 ?_
        refine x_iadd hE d_M_play_145 ?_
        refine x_aload_n hE d_M_play_146 0 rfl ?_
        refine gf_M_35 hc d_M_play_147 ?_
        refine x_iload_n hE d_M_play_150 3 rfl ?_
        refine x_iald hc rfl rfl (by omega) (by decide) d_M_play_151 hat.1 ?_
        first | refine xn_if_le hE d_M_play_152 (fun z => ?_) (fun z => ?_) | refine x_if_le hE d_M_play_152 (fun z => ?_) (fun z => ?_)
        · skip
          refine x_iconst (nI 0) hE d_M_play_164 (by decide) ?_
          exact next _ (by rw [if_pos z])
        · skip
          refine x_aload_n hE d_M_play_155 0 rfl ?_
          refine gf_M_38 hc d_M_play_156 ?_
          refine x_iload_n hE d_M_play_159 3 rfl ?_
          refine x_iald hc rfl rfl (by omega) (by decide) d_M_play_160 (hat.2.1 z) ?_
          refine x_goto hE d_M_play_161 ?_
          exact next _ (by rw [if_neg (by omega)])
  have fin : ∀ (τ : xk_St) (w : Int32), xm_pl n (am_tick W n cnt L t P) τ → xm_fr σ τ → xk_X K (xk_vw (xm G)) τ 119 [(0, .ref (xk_wA (xm G) 0)), (1, .int (nI t)), (2, .int w)] [] := by
    intro τ w h1 h2
    refine x_bipush (nI 17) hE d_M_play_119 (by decide) ?_
    refine x_istore_n [(2, _), (0, _), (1, _)] hE d_M_play_121 rfl (by decide) rfl ?_
    refine x_iconst (nI 0) hE d_M_play_122 (by decide) ?_
    refine x_istore_n [(3, _), (2, _), (0, _), (1, _)] hE d_M_play_123 rfl (by decide) rfl ?_
    refine x_lv [2, 3, 1, 0] (lv' := [(0, _), (1, _), (2, _), (3, _)]) rfl ?_
    exact hash n 0 τ (by omega) h1 h2
  have rest : ∀ (m u : Nat) (τ : xk_St), u + m = n → t % 4 = 3 → xm_pl n (fun v => if v < u then am_tick W n cnt L t P v else am_blow n (am_moves W n (am_obey L (nI t) P cnt) n) v) τ → (∀ v, v < n → τ.1 26 v = nI (am_lost (am_moves W n (am_obey L (nI t) P cnt) n) n v)) → xm_fr σ τ → xk_X K (xk_vw (xm G)) τ 50 [(0, .ref (xk_wA (xm G) 0)), (1, .int (nI t)), (2, .int (nI u))] [] := by
    intro m
    induction m with
    | zero =>
      intro u τ hu h4 h1 hlo h2
      refine x_iload_n hE d_M_play_50 2 rfl ?_
      refine x_aload_n hE d_M_play_51 0 rfl ?_
      refine gf_M_89 hc d_M_play_52 h1.1 ?_
      first | refine xn_icmp_ge hE d_M_play_55 (fun h => ?_) (fun h => ?_) | refine x_icmp_ge hE d_M_play_55 (fun h => ?_) (fun h => ?_)
      · refine fin τ _ (h1.cong (fun v hv => ?_)) h2
        rw [if_pos (by omega)]
      · exact absurd h (by omega)
    | succ m ih =>
      intro u τ hu h4 h1 hlo h2
      have hok2 := am_okP_moves (W := W) hokO n (Nat.le_refl _)
      have hat := h1.2 u (by omega)
      simp only [Nat.lt_irrefl, if_false] at hat
      have hxb : am_ok n (am_blow n (am_moves W n (am_obey L (nI t) P cnt) n) u) := by
        unfold am_blow
        rw [if_pos (by omega)]
        exact am_ok_hurt (hok2 u (by omega))
      have hb := hxb.1
      have ho := hxb.2.2.1
      have hle := am_lost_le (am_moves W n (am_obey L (nI t) P cnt) n) n u
      have etick : am_tick W n cnt L t P u = am_rest (am_blow n (am_moves W n (am_obey L (nI t) P cnt) n) u) (am_lost (am_moves W n (am_obey L (nI t) P cnt) n) n u) := by
        unfold am_tick am_calm
        rw [if_pos ⟨by omega, h4⟩]
      have next : ∀ (τ2 : xk_St), xm_at τ2 u (am_tick W n cnt L t P u) → xm_one u τ τ2 → xk_X K (xk_vw (xm G)) τ2 113 [(0, .ref (xk_wA (xm G) 0)), (1, .int (nI t)), (2, .int (nI u))] [] := by
        intro τ2 g1 g2
        refine x_iinc 2 (nI (_ + 1)) [(2, _), (0, _), (1, _)] hE d_M_play_113 rfl (nI_inc _) (by decide) rfl ?_
        refine x_goto hE d_M_play_116 ?_
        refine x_lv [1, 2, 0] (lv' := [(0, _), (1, _), (2, _)]) rfl ?_
        refine ih (u + 1) τ2 (by omega) h4 ?_ (fun v hv => by rw [g2.2.1 26 (by omega)]; exact hlo v hv) (h2.tr g2.fr)
        refine (h1.set g1 g2).cong (fun v hv => ?_)
        by_cases e : v = u
        · subst e; rw [am_set_s, if_pos (by omega)]
        · rw [am_set_n e]
          by_cases e2 : v < u
          · rw [if_pos e2, if_pos (by omega)]
          · rw [if_neg e2, if_neg (by omega)]
      have no : ¬ (0 < am_pts (am_blow n (am_moves W n (am_obey L (nI t) P cnt) n) u) ∧ am_ord (am_blow n (am_moves W n (am_obey L (nI t) P cnt) n) u) = 0 ∧ am_lost (am_moves W n (am_obey L (nI t) P cnt) n) n u = 0 ∧ am_pts (am_blow n (am_moves W n (am_obey L (nI t) P cnt) n) u) < 20) → xk_X K (xk_vw (xm G)) τ 113 [(0, .ref (xk_wA (xm G) 0)), (1, .int (nI t)), (2, .int (nI u))] [] := by
        intro hno
        refine next τ ?_ xm_one.rf
        rw [etick]
        unfold am_rest
        rw [if_neg hno]
        exact hat
      refine x_iload_n hE d_M_play_50 2 rfl ?_
      refine x_aload_n hE d_M_play_51 0 rfl ?_
      refine gf_M_89 hc d_M_play_52 h1.1 ?_
      first | refine xn_icmp_ge hE d_M_play_55 (fun h => ?_) (fun h => ?_) | refine x_icmp_ge hE d_M_play_55 (fun h => ?_) (fun h => ?_)
      · exact absurd h (by omega)
      · skip
        refine x_iload_n hE d_M_play_58 1 rfl ?_
        refine x_iconst (nI 4) hE d_M_play_59 (by decide) ?_
        first | refine xn_irem hE d_M_play_60 ?_ | refine x_irem hE d_M_play_60 (by decide) ?_
        refine x_iconst (nI 3) hE d_M_play_61 (by decide) ?_
        first | refine xn_icmp_ne hE d_M_play_62 (fun h5 => ?_) (fun h5 => ?_) | refine x_icmp_ne hE d_M_play_62 (fun h5 => ?_) (fun h5 => ?_)
        · exact absurd h4 h5
        · skip
          refine x_aload_n hE d_M_play_65 0 rfl ?_
          refine gf_M_35 hc d_M_play_66 ?_
          refine x_iload_n hE d_M_play_69 2 rfl ?_
          refine x_iald hc rfl rfl (by omega) (by decide) d_M_play_70 hat.1 ?_
          first | refine xn_if_le hE d_M_play_71 (fun z1 => ?_) (fun z1 => ?_) | refine x_if_le hE d_M_play_71 (fun z1 => ?_) (fun z1 => ?_)
          · exact no (by omega)
          · skip
            refine x_aload_n hE d_M_play_74 0 rfl ?_
            refine gf_M_35 hc d_M_play_75 ?_
            refine x_iload_n hE d_M_play_78 2 rfl ?_
            refine x_iald hc rfl rfl (by omega) (by decide) d_M_play_79 hat.1 ?_
            refine x_bipush (nI 20) hE d_M_play_80 (by decide) ?_
            first | refine xn_icmp_ge hE d_M_play_82 (fun z2 => ?_) (fun z2 => ?_) | refine x_icmp_ge hE d_M_play_82 (fun z2 => ?_) (fun z2 => ?_)
            · exact no (by omega)
            · skip
              refine x_aload_n hE d_M_play_85 0 rfl ?_
              refine gf_M_41 hc d_M_play_86 ?_
              refine x_iload_n hE d_M_play_89 2 rfl ?_
              refine x_iald hc rfl rfl (by omega) (by decide) d_M_play_90 hat.2.2.1 ?_
              first | refine xn_if_ne hE d_M_play_91 (fun z3 => ?_) (fun z3 => ?_) | refine x_if_ne hE d_M_play_91 (fun z3 => ?_) (fun z3 => ?_)
              · exact no (by omega)
              · skip
                refine x_aload_n hE d_M_play_94 0 rfl ?_
                refine gf_M_86 hc d_M_play_95 ?_
                refine x_iload_n hE d_M_play_98 2 rfl ?_
                refine x_iald hc rfl rfl (by omega) (by decide) d_M_play_99 (hlo u (by omega)) ?_
                first | refine xn_if_ne hE d_M_play_100 (fun z4 => ?_) (fun z4 => ?_) | refine x_if_ne hE d_M_play_100 (fun z4 => ?_) (fun z4 => ?_)
                · exact no (by omega)
                · skip
                  refine x_aload_n hE d_M_play_103 0 rfl ?_
                  refine gf_M_35 hc d_M_play_104 ?_
                  refine x_iload_n hE d_M_play_107 2 rfl ?_
                  refine x_dup2 hE d_M_play_108 rfl rfl ?_
                  refine x_iald hc rfl rfl (by omega) (by decide) d_M_play_109 hat.1 ?_
                  refine x_iconst (nI 1) hE d_M_play_110 (by decide) ?_
                  first | refine xn_iadd hE d_M_play_111 ?_ | refine x_iadd hE d_M_play_111 ?_
                  refine x_iast hc rfl rfl (by omega) (by decide) d_M_play_112 ?_
                  refine next _ ?_ (xm_one.up (by decide) (by decide) (by decide))
                  rw [etick]
                  unfold am_rest
                  rw [if_pos ⟨z1, z3, z4, z2⟩]
                  obtain ⟨h1, h2, h3, h4, h5, h6, h7, h8⟩ := hat
                  refine ⟨?_, fun _ => ?_, ?_, ?_, ?_, ?_, h7, fun i hi => ?_⟩
                  all_goals simp (disch := omega) only [xk_up_s, xk_up_o]
                  · rfl
                  · exact h2 z1
                  · exact h3
                  · exact h4
                  · exact h5
                  · exact h6
                  · exact h8 i hi
  have loop : ∀ (m u : Nat) (τ : xk_St), u + m = n → xm_pl n (am_moves W n (am_obey L (nI t) P cnt) u) τ → xm_fr σ τ → xk_X K (xk_vw (xm G)) τ 7 [(0, .ref (xk_wA (xm G) 0)), (1, .int (nI t)), (2, .int (nI u))] [] := by
    intro m
    induction m with
    | zero =>
      intro u τ hu hpl2 hf
      refine x_iload_n hE d_M_play_7 2 rfl ?_
      refine x_aload_n hE d_M_play_8 0 rfl ?_
      refine gf_M_89 hc d_M_play_9 hpl2.1 ?_
      first | refine xn_icmp_ge hE d_M_play_12 (fun h => ?_) (fun h => ?_) | refine x_icmp_ge hE d_M_play_12 (fun h => ?_) (fun h => ?_)
      · skip
        have e0 : u = n := by omega
        subst e0
        have hok2 := am_okP_moves (W := W) hokO u (Nat.le_refl _)
        refine x_aload_n hE d_M_play_44 0 rfl ?_
        refine ca_M_142 hc d_M_play_45 (k_M_fight hn hpl2 hok2) (fun τ hq => ?_)
        obtain ⟨b1, b2, b3⟩ := hq
        refine x_iconst (nI 0) hE d_M_play_48 (by decide) ?_
        refine x_istore_n [(2, _), (0, _), (1, _)] hE d_M_play_49 rfl (by decide) rfl ?_
        refine x_lv [1, 2, 0] (lv' := [(0, _), (1, _), (2, _)]) rfl ?_
        by_cases h4 : t % 4 = 3
        · refine rest u 0 _ (by omega) h4 ?_ b2 (hf.tr b3)
          simp only [Nat.not_lt_zero, if_false]
          exact b1
        · have b4 : xm_pl u (am_tick W u cnt L t P) _ := b1.cong (fun v hv => by
            unfold am_tick am_calm
            rw [if_neg (fun q => h4 q.2)])
          refine x_iload_n hE d_M_play_50 2 rfl ?_
          refine x_aload_n hE d_M_play_51 0 rfl ?_
          refine gf_M_89 hc d_M_play_52 b1.1 ?_
          first | refine xn_icmp_ge hE d_M_play_55 (fun h5 => ?_) (fun h5 => ?_) | refine x_icmp_ge hE d_M_play_55 (fun h5 => ?_) (fun h5 => ?_)
          · exact fin _ _ b4 (hf.tr b3)
          · skip
            refine x_iload_n hE d_M_play_58 1 rfl ?_
            refine x_iconst (nI 4) hE d_M_play_59 (by decide) ?_
            first | refine xn_irem hE d_M_play_60 ?_ | refine x_irem hE d_M_play_60 (by decide) ?_
            refine x_iconst (nI 3) hE d_M_play_61 (by decide) ?_
            first | refine xn_icmp_ne hE d_M_play_62 (fun h6 => ?_) (fun h6 => ?_) | refine x_icmp_ne hE d_M_play_62 (fun h6 => ?_) (fun h6 => ?_)
            · exact fin _ _ b4 (hf.tr b3)
            · exact absurd h6 h4
      · exact absurd h (by omega)
    | succ m ih =>
      intro u τ hu hpl2 hf
      have hok2 := am_okP_moves (W := W) hokO u (by omega)
      have hat := hpl2.2 u (by omega)
      have ho := (hok2 u (by omega)).2.2.1
      have hb := (hok2 u (by omega)).1
      have next : ∀ (τ2 : xk_St), xm_pl n (am_moves W n (am_obey L (nI t) P cnt) (u + 1)) τ2 → xm_fr σ τ2 → xk_X K (xk_vw (xm G)) τ2 38 [(0, .ref (xk_wA (xm G) 0)), (1, .int (nI t)), (2, .int (nI u))] [] := by
        intro τ2 g1 g2
        refine x_iinc 2 (nI (_ + 1)) [(2, _), (0, _), (1, _)] hE d_M_play_38 rfl (nI_inc _) (by decide) rfl ?_
        refine x_goto hE d_M_play_41 ?_
        refine x_lv [1, 2, 0] (lv' := [(0, _), (1, _), (2, _)]) rfl ?_
        exact ih (u + 1) τ2 (by omega) g1 g2
      refine x_iload_n hE d_M_play_7 2 rfl ?_
      refine x_aload_n hE d_M_play_8 0 rfl ?_
      refine gf_M_89 hc d_M_play_9 hpl2.1 ?_
      first | refine xn_icmp_ge hE d_M_play_12 (fun h => ?_) (fun h => ?_) | refine x_icmp_ge hE d_M_play_12 (fun h => ?_) (fun h => ?_)
      · exact absurd h (by omega)
      · skip
        refine x_aload_n hE d_M_play_15 0 rfl ?_
        refine gf_M_35 hc d_M_play_16 ?_
        refine x_iload_n hE d_M_play_19 2 rfl ?_
        refine x_iald hc rfl rfl (by omega) (by decide) d_M_play_20 hat.1 ?_
        first | refine xn_if_le hE d_M_play_21 (fun hz => ?_) (fun hz => ?_) | refine x_if_le hE d_M_play_21 (fun hz => ?_) (fun hz => ?_)
        · refine next τ ?_ hf
          simp only [am_moves]
          rw [if_pos ((hok2 u (by omega)).2.2.2.2.2.2.2.2 hz).1]
          exact hpl2
        · skip
          refine x_aload_n hE d_M_play_24 0 rfl ?_
          refine gf_M_41 hc d_M_play_25 ?_
          refine x_iload_n hE d_M_play_28 2 rfl ?_
          refine x_iald hc rfl rfl (by omega) (by decide) d_M_play_29 hat.2.2.1 ?_
          first | refine xn_if_eq hE d_M_play_30 (fun h2 => ?_) (fun h2 => ?_) | refine x_if_eq hE d_M_play_30 (fun h2 => ?_) (fun h2 => ?_)
          · refine next τ ?_ hf
            simp only [am_moves]
            rw [if_pos h2]
            exact hpl2
          · skip
            refine x_aload_n hE d_M_play_33 0 rfl ?_
            refine x_iload_n hE d_M_play_34 2 rfl ?_
            refine ca_M_139 hc d_M_play_35 (k_M_move hn (show u < n by omega) hpl2 hok2 (hW.mv (hf.2 1 (by omega))) h2) (fun τ hq => ?_)
            obtain ⟨f1, f2⟩ := hq
            refine next _ ?_ (hf.tr f2.fr)
            simp only [am_moves]
            rw [if_neg h2]
            exact hpl2.set f1 f2
  exact loop n 0 _ (by omega) o1 o2
end XM4
