/-! PLAY: goals, orders, blows, rest, the number, a tick -/
section XP3
variable {G : xk_D} {σ : xk_St} {p n u : Nat} {P : am_P} {W : Nat → Bool}
def am_goal (W : Nat → Bool) (P : am_P) (x : am_U) : Option Nat :=
  if am_ord x = 2 then (if am_pts (P (am_aim x)) = 0 then none else some (am_til (P (am_aim x)))) else (if am_aim x = am_til x ∨ W (am_aim x) = true then none else some (am_aim x))
theorem k_P_goalOf (hp : p < 2) (hn : n ≤ 8) (hu : u < n) (hpl : xc_pl p n P σ) (hok : am_okP n P) (ha : 0 < am_pts (P u)) (hW : xc_W W σ) : xk_M (xc G) 2 y_P_goalOf [.ref (xk_wA (xc G) (10 + 3 * p)), .ref (xk_wA (xc G) (17 + 8 * p + u))] σ (xk_pi (fun r τ => r = xc_o (am_goal W P (P u)) ∧ σ = τ)) := by
  have hat := hpl.2 u hu
  have hx := hok u hu
  have ho := hx.2.2.1
  have haim := hx.2.2.2.1
  refine xk_enter (by decide) (Nat.le_of_ble_eq_true rfl) (fun K hE hc => ?_)
  show xk_X K _ _ 0 [(0, _), (1, _)] []
  refine x_aload_n hE d_P_goalOf_0 1 rfl ?_
  refine gf_P_58 hc (by omega) d_P_goalOf_1 hat.2.2.2.1 ?_
  refine x_iconst (nI 2) hE d_P_goalOf_4 (by decide) ?_
  first | refine xn_icmp_ne hE d_P_goalOf_5 (fun h => ?_) (fun h => ?_) | refine x_icmp_ne hE d_P_goalOf_5 (fun h => ?_) (fun h => ?_)
  · skip
    have htil := hx.2.1
    refine x_aload_n hE d_P_goalOf_21 1 rfl ?_
    refine gf_P_113 hc (by omega) d_P_goalOf_22 hat.2.2.2.2.1 ?_
    refine x_aload_n hE d_P_goalOf_25 1 rfl ?_
    refine gf_P_75 hc (by omega) d_P_goalOf_26 (hat.2.1 ha) ?_
    first | refine xn_icmp_eq hE d_P_goalOf_29 (fun h1 => ?_) (fun h1 => ?_) | refine x_icmp_eq hE d_P_goalOf_29 (fun h1 => ?_) (fun h1 => ?_)
    · skip
      refine x_iconst (-1) hE d_P_goalOf_46 (by decide) ?_
      refine x_goto hE d_P_goalOf_47 ?_
      exact x_iret hc d_P_goalOf_54 (⟨by unfold am_goal; rw [if_neg h, if_pos (Or.inl h1)]; rfl, rfl⟩)
    · skip
      refine x_aload_n hE d_P_goalOf_32 0 rfl ?_
      refine gf_P_21 hc hp d_P_goalOf_33 ?_
      refine x_aload_n hE d_P_goalOf_36 1 rfl ?_
      refine gf_P_113 hc (by omega) d_P_goalOf_37 hat.2.2.2.2.1 ?_
      refine ca_P_116 hc d_P_goalOf_40 (k_G_isWall hW haim) (fun r τ hq => ?_)
      obtain ⟨rfl, rfl⟩ := hq
      cases hw : W (am_aim (P u)) with
      | true =>
        first | refine xn_if_eq hE d_P_goalOf_43 (fun z => ?_) (fun z => ?_) | refine x_if_eq hE d_P_goalOf_43 (fun z => ?_) (fun z => ?_)
        · exact absurd z (by decide)
        · skip
          refine x_iconst (-1) hE d_P_goalOf_46 (by decide) ?_
          refine x_goto hE d_P_goalOf_47 ?_
          exact x_iret hc d_P_goalOf_54 (⟨by unfold am_goal; rw [if_neg h, if_pos (Or.inr hw)]; rfl, rfl⟩)
      | false =>
        first | refine xn_if_eq hE d_P_goalOf_43 (fun z => ?_) (fun z => ?_) | refine x_if_eq hE d_P_goalOf_43 (fun z => ?_) (fun z => ?_)
        · skip
          refine x_aload_n hE d_P_goalOf_50 1 rfl ?_
          refine gf_P_113 hc (by omega) d_P_goalOf_51 hat.2.2.2.2.1 ?_
          exact x_iret hc d_P_goalOf_54 (⟨by unfold am_goal; rw [if_neg h, if_neg (by rw [hw]; simp [h1])]; rfl, rfl⟩)
        · exact absurd rfl z
  · skip
    have haim2 := hx.2.2.2.2.1 h
    have hat2 := hpl.2 _ haim2
    refine x_aload_n hE d_P_goalOf_8 0 rfl ?_
    refine gf_P_11 hc hp d_P_goalOf_9 ?_
    refine x_aload_n hE d_P_goalOf_12 1 rfl ?_
    refine gf_P_113 hc (by omega) d_P_goalOf_13 hat.2.2.2.2.1 ?_
    refine x_aald (b := 17 + 8 * p) hc (xc_shV hp) rfl (by omega) (by decide) d_P_goalOf_16 ?_
    by_cases hd : am_pts (P (am_aim (P u))) = 0
    · skip
      refine gf_P_75 hc (by omega) d_P_goalOf_17 (hat2.2.2.1 hd) ?_
      exact x_iret hc d_P_goalOf_20 (⟨by unfold am_goal; rw [if_pos h, if_pos hd]; rfl, rfl⟩)
    · skip
      refine gf_P_75 hc (by omega) d_P_goalOf_17 (hat2.2.1 (by omega)) ?_
      exact x_iret hc d_P_goalOf_20 (⟨by unfold am_goal; rw [if_pos h, if_neg hd]; rfl, rfl⟩)
theorem k_P_follow (hp : p < 2) (hn : n ≤ 8) (hu : u < n) (hpl : xc_pl p n P σ) (hok : am_okP n P) (ho0 : am_ord (P u) ≠ 0) (hW : xc_W W σ) : xk_M (xc G) 4 y_P_follow [.ref (xk_wA (xc G) (10 + 3 * p)), .ref (xk_wA (xc G) (17 + 8 * p + u))] σ (xk_pv (fun τ => xc_at τ (17 + 8 * p + u) (am_go W n P (P u)) ∧ xc_one p u σ τ)) := by
  have hat := hpl.2 u hu
  have hx := hok u hu
  have ha := am_ok_alive hx ho0
  have ho := hx.2.2.1
  have hk : 17 ≤ 17 + 8 * p + u ∧ 17 + 8 * p + u < 33 := by omega
  refine xk_enter (by decide) (Nat.le_of_ble_eq_true rfl) (fun K hE hc => ?_)
  show xk_X K _ _ 0 [(0, _), (1, _)] []
  refine x_aload_n hE d_P_follow_0 0 rfl ?_
  refine x_aload_n hE d_P_follow_1 1 rfl ?_
  refine ca_P_95 hc hp d_P_follow_2 (k_P_goalOf hp hn hu hpl hok ha hW) (fun r τ hq => ?_)
  obtain ⟨rfl, rfl⟩ := hq
  refine x_istore_n [(2, _), (0, _), (1, _)] hE d_P_follow_5 rfl (by decide) rfl ?_
  refine x_iload_n hE d_P_follow_6 0 rfl ?_
  refine x_iconst (-1) hE d_P_follow_7 (by decide) ?_
  cases hgl : am_goal W P (P u) with
  | none =>
    have hgo : am_go W n P (P u) = am_drop (P u) := by
      unfold am_goal at hgl
      unfold am_go
      split
      · rename_i h
        rw [if_pos h] at hgl
        split at hgl
        · rename_i h2; rw [if_pos h2]
        · cases hgl
      · rename_i h
        rw [if_neg h] at hgl
        split at hgl
        · rename_i h2; rw [if_pos h2]
        · cases hgl
    refine x_icmp_ne hE d_P_follow_8 (fun z => ?_) (fun z => ?_)
    · exact absurd rfl z
    · skip
      refine x_aload_n hE d_P_follow_11 2 rfl ?_
      refine ca_P_99 hc (by omega) d_P_follow_12 (k_U_dropOrder hk) (fun τ hq => ?_)
      obtain rfl := hq
      refine x_goto hE d_P_follow_15 ?_
      obtain ⟨f1, f2⟩ := xu_drop_at hat
      exact x_ret hc d_P_follow_51 (⟨by rw [hgo]; exact f1, f2.one⟩)
  | some g =>
    have hg : g < 64 ∧ (am_ord (P u) = 1 → g = am_aim (P u)) ∧ am_go W n P (P u) = (if am_ord (P u) = 2 ∧ am_dist (am_til (P u)) g = 1 then (am_pts (P u), am_til (P u), am_ord (P u), am_aim (P u), am_pat (P u), []) else am_walk W n P (P u) g) := by
      unfold am_goal at hgl
      unfold am_go
      by_cases h : am_ord (P u) = 2
      · rw [if_pos h] at hgl
        rw [if_pos h]
        by_cases h2 : am_pts (P (am_aim (P u))) = 0
        · rw [if_pos h2] at hgl; cases hgl
        · rw [if_neg h2] at hgl
          cases hgl
          rw [if_neg h2]
          refine ⟨(hok _ (hx.2.2.2.2.1 h)).2.1, fun e => absurd e (by omega), ?_⟩
          by_cases h3 : am_dist (am_til (P u)) (am_til (P (am_aim (P u)))) = 1
          · rw [if_pos h3, if_pos ⟨h, h3⟩]
          · rw [if_neg h3, if_neg (fun q => h3 q.2)]
      · rw [if_neg h] at hgl
        rw [if_neg h]
        by_cases h2 : am_aim (P u) = am_til (P u) ∨ W (am_aim (P u)) = true
        · rw [if_pos h2] at hgl; cases hgl
        · rw [if_neg h2] at hgl
          cases hgl
          rw [if_neg h2, if_neg (fun q => h q.1)]
          exact ⟨hx.2.2.2.1, fun _ => rfl, rfl⟩
    obtain ⟨hg1, hg2, hg3⟩ := hg
    have htil := hx.2.1
    have wk : xk_X K (xk_vw (xc G)) σ 45 [(2, .int (nI g)), (0, .ref (xk_wA (xc G) (10 + 3 * p))), (1, .ref (xk_wA (xc G) (17 + 8 * p + u)))] [] ∨ True := Or.inr trivial
    have walk : ¬ (am_ord (P u) = 2 ∧ am_dist (am_til (P u)) g = 1) → xk_X K (xk_vw (xc G)) σ 45 [(2, .int (nI g)), (0, .ref (xk_wA (xc G) (10 + 3 * p))), (1, .ref (xk_wA (xc G) (17 + 8 * p + u)))] [] := by
      intro hno
      refine x_aload_n hE d_P_follow_45 1 rfl ?_
      refine x_aload_n hE d_P_follow_46 2 rfl ?_
      refine x_iload_n hE d_P_follow_47 0 rfl ?_
      refine ca_P_109 hc hp d_P_follow_48 (k_P_walk hp hn hu hpl hok ha hg1 hg2 hW) (fun τ hq => ?_)
      obtain ⟨v1, v2⟩ := hq
      exact x_ret hc d_P_follow_51 (⟨by rw [hg3, if_neg hno]; exact v1, v2⟩)
    show xk_X K _ _ 8 [(2, .int (nI g)), (0, _), (1, _)] [.int (-1), .int (nI g)]
    refine x_icmp_ne hE d_P_follow_8 (fun z => ?_) (fun z => ?_)
    · skip
      refine x_aload_n hE d_P_follow_18 2 rfl ?_
      refine gf_P_58 hc (by omega) d_P_follow_19 hat.2.2.2.1 ?_
      refine x_iconst (nI 2) hE d_P_follow_22 (by decide) ?_
      first | refine xn_icmp_ne hE d_P_follow_23 (fun h => ?_) (fun h => ?_) | refine x_icmp_ne hE d_P_follow_23 (fun h => ?_) (fun h => ?_)
      · exact walk (fun q => h q.1)
      · skip
        refine x_aload_n hE d_P_follow_26 2 rfl ?_
        refine gf_P_75 hc (by omega) d_P_follow_27 (hat.2.1 ha) ?_
        refine x_iload_n hE d_P_follow_30 0 rfl ?_
        refine ca_P_102 hc d_P_follow_31 (k_G_distance hx.2.1 hg1) (fun r τ hq => ?_)
        obtain ⟨rfl, rfl⟩ := hq
        have hdl : am_dist (am_til (P u)) g < 2 ^ 31 := by unfold am_dist am_dif; omega
        refine x_iconst (nI 1) hE d_P_follow_34 (by decide) ?_
        first | refine xn_icmp_ne hE d_P_follow_35 (fun h2 => ?_) (fun h2 => ?_) | refine x_icmp_ne hE d_P_follow_35 (fun h2 => ?_) (fun h2 => ?_)
        · exact walk (fun q => h2 q.2)
        · skip
          refine x_aload_n hE d_P_follow_38 2 rfl ?_
          refine ca_P_106 hc (by omega) d_P_follow_39 (k_U_clearPath hk) (fun τ hq => ?_)
          obtain rfl := hq
          refine x_goto hE d_P_follow_42 ?_
          obtain ⟨f1, f2⟩ := xu_clear_at hat
          exact x_ret hc d_P_follow_51 (⟨by rw [hg3, if_pos ⟨h, h2⟩]; exact f1, f2.one⟩)
    · exact absurd z (nI_m1 (by omega))
theorem xc_L.mv {cnt : Nat} {L : am_L} {σ τ : xk_St} (h : xc_L cnt L σ) (e : ∀ k, 5 ≤ k → k ≤ 9 → τ.1 k = σ.1 k) : xc_L cnt L τ := by
  unfold xc_L
  rw [e 5 (by omega) (by omega), e 6 (by omega) (by omega), e 7 (by omega) (by omega), e 8 (by omega) (by omega), e 9 (by omega) (by omega)]
  exact h
theorem k_P_giveOrders (hp : p < 2) (hn : n ≤ 8) (hpl : xc_pl p n P σ) (hok : am_okP n P) {cnt : Nat} {L : am_L} {t : Int32} (hL : xc_L cnt L σ) (hLo : am_okL n cnt L) : xk_M (xc G) 2 y_P_giveOrders [.ref (xk_wA (xc G) (10 + 3 * p)), .int t, .ref (xk_wA (xc G) 5)] σ (xk_pv (fun τ => xc_pl p n (am_obey L t P cnt) τ ∧ xc_fr p σ τ)) := by
  have hc24 := hLo.1
  refine xk_enter (by decide) (Nat.le_of_ble_eq_true rfl) (fun K hE hc => ?_)
  show xk_X K _ _ 0 [(0, _), (1, _), (2, _)] []
  refine x_iconst (nI 0) hE d_P_giveOrders_0 (by decide) ?_
  refine x_istore_n [(3, _), (0, _), (1, _), (2, _)] hE d_P_giveOrders_1 rfl (by decide) rfl ?_
  refine x_lv [1, 2, 3, 0] (lv' := [(0, _), (1, _), (2, _), (3, _)]) rfl ?_
  have loop : ∀ (m e : Nat) (τ : xk_St), e + m = cnt → xc_pl p n (am_obey L t P e) τ → xc_fr p σ τ → xk_X K (xk_vw (xc G)) τ 2 [(0, .ref (xk_wA (xc G) (10 + 3 * p))), (1, .int t), (2, .ref (xk_wA (xc G) 5)), (3, .int (nI e))] [] := by
    intro m
    induction m with
    | zero =>
      intro e τ he hpl2 hf
      have hL2 : xc_L cnt L τ := hL.mv (fun k h1 h2 => hf.2.1 k (by omega))
      refine x_iload_n hE d_P_giveOrders_2 3 rfl ?_
      refine x_aload_n hE d_P_giveOrders_3 2 rfl ?_
      refine gf_P_78 hc d_P_giveOrders_4 hL2.1 ?_
      first | refine xn_icmp_ge hE d_P_giveOrders_7 (fun h => ?_) (fun h => ?_) | refine x_icmp_ge hE d_P_giveOrders_7 (fun h => ?_) (fun h => ?_)
      · skip
        have e0 : e = cnt := by omega
        subst e0
        exact x_ret hc d_P_giveOrders_64 (⟨hpl2, hf⟩)
      · exact absurd h (by omega)
    | succ m ih =>
      intro e τ he hpl2 hf
      have hL2 : xc_L cnt L τ := hL.mv (fun k h1 h2 => hf.2.1 k (by omega))
      have hLe := hL2.2 e (by omega)
      obtain ⟨o1, o2, o3, o4⟩ := hLo.2 e (by omega)
      have hok2 := am_okP_obey (t := t) hok hLo e (by omega)
      have hat := hpl2.2 _ o1
      have hb := (hok2 _ o1).1
      have next : ∀ (τ2 : xk_St), xc_pl p n (am_obey L t P (e + 1)) τ2 → xc_fr p σ τ2 → xk_X K (xk_vw (xc G)) τ2 58 [(4, .ref (xk_wA (xc G) (17 + 8 * p + (L e).2.1))), (0, .ref (xk_wA (xc G) (10 + 3 * p))), (1, .int t), (2, .ref (xk_wA (xc G) 5)), (3, .int (nI e))] [] := by
        intro τ2 g1 g2
        refine x_iinc 4 (nI (_ + 1)) [(3, _), (4, _), (0, _), (1, _), (2, _)] hE d_P_giveOrders_58 rfl (nI_inc _) (by decide) rfl ?_
        refine x_goto hE d_P_giveOrders_61 ?_
        refine x_lv [2, 3, 4, 0] (lv' := [(0, _), (1, _), (2, _), (3, _)]) rfl ?_
        exact ih (e + 1) τ2 (by omega) g1 g2
      refine x_iload_n hE d_P_giveOrders_2 3 rfl ?_
      refine x_aload_n hE d_P_giveOrders_3 2 rfl ?_
      refine gf_P_78 hc d_P_giveOrders_4 hL2.1 ?_
      first | refine xn_icmp_ge hE d_P_giveOrders_7 (fun h => ?_) (fun h => ?_) | refine x_icmp_ge hE d_P_giveOrders_7 (fun h => ?_) (fun h => ?_)
      · exact absurd h (by omega)
      · skip
        refine x_aload_n hE d_P_giveOrders_10 0 rfl ?_
        refine gf_P_11 hc hp d_P_giveOrders_11 ?_
        refine x_aload_n hE d_P_giveOrders_14 2 rfl ?_
        refine gf_P_81 hc d_P_giveOrders_15 ?_
        refine x_iload_n hE d_P_giveOrders_18 3 rfl ?_
        refine x_iald hc rfl rfl (by omega) (by decide) d_P_giveOrders_19 hLe.2.1 ?_
        refine x_aald (b := 17 + 8 * p) hc (xc_shV hp) rfl (by omega) (by decide) d_P_giveOrders_20 ?_
        refine x_astore [(4, _), (0, _), (1, _), (2, _), (3, _)] hE d_P_giveOrders_21 (by decide) rfl ?_
        refine x_aload_n hE d_P_giveOrders_23 3 rfl ?_
        refine gf_P_83 hc d_P_giveOrders_24 ?_
        refine x_iload_n hE d_P_giveOrders_27 4 rfl ?_
        refine x_iald hc rfl rfl (by omega) (by decide) d_P_giveOrders_28 hLe.1 ?_
        refine x_iload_n hE d_P_giveOrders_29 2 rfl ?_
        refine x_icmp_ne hE d_P_giveOrders_30 (fun h2 => ?_) (fun h2 => ?_)
        · refine next τ ?_ hf
          simp only [am_obey]
          rw [if_neg (fun q => h2 q.1)]
          exact hpl2
        · skip
          refine x_aload hE d_P_giveOrders_33 0 rfl ?_
          refine ca_P_40 hc (by omega) d_P_giveOrders_35 (k_U_isDead (by omega) hat.1 (by omega)) (fun r τ hq => ?_)
          obtain ⟨rfl, rfl⟩ := hq
          by_cases hd : am_pts (am_obey L t P e (L e).2.1) = 0
          · rw [if_pos hd]
            first | refine xn_if_ne hE d_P_giveOrders_38 (fun z => ?_) (fun z => ?_) | refine x_if_ne hE d_P_giveOrders_38 (fun z => ?_) (fun z => ?_)
            · refine next τ ?_ hf
              simp only [am_obey]
              rw [if_neg (fun q => by omega)]
              exact hpl2
            · exact absurd z (by decide)
          · rw [if_neg hd]
            first | refine xn_if_ne hE d_P_giveOrders_38 (fun z => ?_) (fun z => ?_) | refine x_if_ne hE d_P_giveOrders_38 (fun z => ?_) (fun z => ?_)
            · exact absurd rfl z
            · skip
              refine x_aload hE d_P_giveOrders_41 0 rfl ?_
              refine x_aload_n hE d_P_giveOrders_43 3 rfl ?_
              refine gf_P_86 hc d_P_giveOrders_44 ?_
              refine x_iload_n hE d_P_giveOrders_47 4 rfl ?_
              refine x_iald hc rfl rfl (by omega) (by decide) d_P_giveOrders_48 hLe.2.2.1 ?_
              refine x_aload_n hE d_P_giveOrders_49 3 rfl ?_
              refine gf_P_89 hc d_P_giveOrders_50 ?_
              refine x_iload_n hE d_P_giveOrders_53 4 rfl ?_
              refine x_iald hc rfl rfl (by omega) (by decide) d_P_giveOrders_54 hLe.2.2.2 ?_
              refine ca_P_92 hc (by omega) d_P_giveOrders_55 (k_U_obey (by omega)) (fun τ hq => ?_)
              obtain rfl := hq
              obtain ⟨f1, f2⟩ := xu_obey_at (o := (L e).2.2.1) (a := (L e).2.2.2) hat
              refine next _ ?_ (hf.tr (f2.fr (by omega)))
              simp only [am_obey]
              rw [if_pos ⟨h2, by omega⟩]
              exact hpl2.set hp hn (by omega) f1 f2.one
  exact loop cnt 0 σ (by omega) hpl xc_fr.rf
theorem k_P_reaches (hp : p < 2) (hn : n ≤ 8) {v : Nat} (hu : u < n) (hv : v < n) (hpl : xc_pl p n P σ) (hok : am_okP n P) (ha : 0 < am_pts (P u)) : xk_M (xc G) 2 y_P_reaches [.ref (xk_wA (xc G) (17 + 8 * p + u)), .ref (xk_wA (xc G) (17 + 8 * p + v))] σ (xk_pi (fun r τ => r = (if 0 < am_pts (P v) ∧ am_dist (am_til (P u)) (am_til (P v)) = 1 then nI 1 else nI 0) ∧ σ = τ)) := by
  have hat := hpl.2 u hu
  have hatv := hpl.2 v hv
  have hx := hok u hu
  have hy := hok v hv
  have hb := hy.1
  refine xk_enter (by decide) (Nat.le_of_ble_eq_true rfl) (fun K hE hc => ?_)
  show xk_X K _ _ 0 [(0, _), (1, _)] []
  refine x_aload_n hE d_P_reaches_0 1 rfl ?_
  refine ca_P_40 hc (by omega) d_P_reaches_1 (k_U_isDead (by omega) hatv.1 (by omega)) (fun r τ hq => ?_)
  obtain ⟨rfl, rfl⟩ := hq
  by_cases hd : am_pts (P v) = 0
  · rw [if_pos hd]
    first | refine xn_if_ne hE d_P_reaches_4 (fun z => ?_) (fun z => ?_) | refine x_if_ne hE d_P_reaches_4 (fun z => ?_) (fun z => ?_)
    · skip
      refine x_iconst (nI 0) hE d_P_reaches_26 (by decide) ?_
      exact x_zret hc d_P_reaches_27 (by first | exact Or.inl rfl | exact Or.inr rfl | assumption | omega) (⟨by rw [if_neg (by omega)], rfl⟩)
    · exact absurd z (by decide)
  · rw [if_neg hd]
    first | refine xn_if_ne hE d_P_reaches_4 (fun z => ?_) (fun z => ?_) | refine x_if_ne hE d_P_reaches_4 (fun z => ?_) (fun z => ?_)
    · exact absurd rfl z
    · skip
      refine x_aload_n hE d_P_reaches_7 0 rfl ?_
      refine gf_P_75 hc (by omega) d_P_reaches_8 (hat.2.1 ha) ?_
      refine x_aload_n hE d_P_reaches_11 1 rfl ?_
      refine gf_P_75 hc (by omega) d_P_reaches_12 (hatv.2.1 (by omega)) ?_
      refine ca_P_102 hc d_P_reaches_15 (k_G_distance hx.2.1 hy.2.1) (fun r τ hq => ?_)
      obtain ⟨rfl, rfl⟩ := hq
      have hdl : am_dist (am_til (P u)) (am_til (P v)) < 2 ^ 31 := by
        have h1 := hx.2.1
        have h2 := hy.2.1
        unfold am_dist am_dif
        omega
      refine x_iconst (nI 1) hE d_P_reaches_18 (by decide) ?_
      first | refine xn_icmp_ne hE d_P_reaches_19 (fun h2 => ?_) (fun h2 => ?_) | refine x_icmp_ne hE d_P_reaches_19 (fun h2 => ?_) (fun h2 => ?_)
      · skip
        refine x_iconst (nI 0) hE d_P_reaches_26 (by decide) ?_
        exact x_zret hc d_P_reaches_27 (by first | exact Or.inl rfl | exact Or.inr rfl | assumption | omega) (⟨by rw [if_neg (fun q => h2 q.2)], rfl⟩)
      · skip
        refine x_iconst (nI 1) hE d_P_reaches_22 (by decide) ?_
        refine x_goto hE d_P_reaches_23 ?_
        exact x_zret hc d_P_reaches_27 (by first | exact Or.inl rfl | exact Or.inr rfl | assumption | omega) (⟨by rw [if_pos ⟨by omega, h2⟩], rfl⟩)
theorem am_lost_le (P : am_P) : ∀ u v, am_lost P u v ≤ 3 * u
  | 0, v => Nat.le_refl _
  | u + 1, v => by
    simp only [am_lost]
    split
    · by_cases e : v = am_aim (P u)
      · subst e
        rw [am_set_s]
        have := am_lost_le P u (am_aim (P u))
        omega
      · rw [am_set_n e]
        have := am_lost_le P u v
        omega
    · have := am_lost_le P u v
      omega
theorem xc_pl.mv {σ τ : xk_St} (h : xc_pl p n P σ) (hn : n ≤ 8) (e : ∀ k, k = 10 + 3 * p ∨ (17 + 8 * p ≤ k ∧ k < 25 + 8 * p) ∨ (33 + 8 * p ≤ k ∧ k < 41 + 8 * p) → τ.1 k = σ.1 k) : xc_pl p n P τ := by
  refine ⟨by rw [e _ (by omega)]; exact h.1, fun v hv => ?_⟩
  have h1 := h.2 v hv
  unfold xc_at at h1 ⊢
  rw [e (17 + 8 * p + v) (by omega), e (17 + 8 * p + v + 16) (by omega)]
  exact h1
theorem k_P_exchangeBlows (hp : p < 2) (hn : n ≤ 8) (hpl : xc_pl p n P σ) (hok : am_okP n P) : xk_M (xc G) 3 y_P_exchangeBlows [.ref (xk_wA (xc G) (10 + 3 * p))] σ (xk_pv (fun τ => xc_pl p n (am_blow n P) τ ∧ (∀ u, u < n → τ.1 (17 + 8 * p + u) 7 = nI (if 0 < am_lost P n u then 1 else 0)) ∧ xc_fr p σ τ)) := by
  refine xk_enter (by decide) (Nat.le_of_ble_eq_true rfl) (fun K hE hc => ?_)
  show xk_X K _ _ 0 [(0, _)] []
  refine x_aload_n hE d_P_exchangeBlows_0 0 rfl ?_
  refine gf_P_17 hc hp d_P_exchangeBlows_1 ?_
  refine x_iconst (nI 0) hE d_P_exchangeBlows_4 (by decide) ?_
  refine ca_P_160 hc d_P_exchangeBlows_5 (k_A_fill (xc_shO hp) (by decide)) (fun τ hq => ?_)
  obtain rfl := hq
  refine x_iconst (nI 0) hE d_P_exchangeBlows_8 (by decide) ?_
  refine x_istore_n [(1, _), (0, _)] hE d_P_exchangeBlows_9 rfl (by decide) rfl ?_
  refine x_lv [1, 0] (lv' := [(0, _), (1, _)]) rfl ?_
  have second : ∀ (m u : Nat) (τ : xk_St), u + m = n → xc_pl p n (fun v => if v < u then am_hurt (P v) (am_lost P n v) else P v) τ → (∀ v, v < u → τ.1 (17 + 8 * p + v) 7 = nI (if 0 < am_lost P n v then 1 else 0)) → (∀ v, v < 8 → τ.1 (12 + 3 * p) v = nI (am_lost P n v)) → xc_fr p σ τ → xk_X K (xk_vw (xc G)) τ 83 [(0, .ref (xk_wA (xc G) (10 + 3 * p))), (1, .int (nI u))] [] := by
    intro m
    induction m with
    | zero =>
      intro u τ hu hpl2 hh hlo hf
      refine x_iload_n hE d_P_exchangeBlows_83 1 rfl ?_
      refine x_aload_n hE d_P_exchangeBlows_84 0 rfl ?_
      refine gf_P_26 hc hp d_P_exchangeBlows_85 hpl2.1 ?_
      first | refine xn_icmp_ge hE d_P_exchangeBlows_88 (fun h => ?_) (fun h => ?_) | refine x_icmp_ge hE d_P_exchangeBlows_88 (fun h => ?_) (fun h => ?_)
      · skip
        have e0 : u = n := by omega
        subst e0
        exact x_ret hc d_P_exchangeBlows_112 (⟨hpl2, hh, hf⟩)
      · exact absurd h (by omega)
    | succ m ih =>
      intro u τ hu hpl2 hh hlo hf
      have hat := hpl2.2 u (by omega)
      simp only [Nat.lt_irrefl, if_false] at hat
      have hx := hok u (by omega)
      have hle := am_lost_le P n u
      refine x_iload_n hE d_P_exchangeBlows_83 1 rfl ?_
      refine x_aload_n hE d_P_exchangeBlows_84 0 rfl ?_
      refine gf_P_26 hc hp d_P_exchangeBlows_85 hpl2.1 ?_
      first | refine xn_icmp_ge hE d_P_exchangeBlows_88 (fun h => ?_) (fun h => ?_) | refine x_icmp_ge hE d_P_exchangeBlows_88 (fun h => ?_) (fun h => ?_)
      · exact absurd h (by omega)
      · skip
        refine x_aload_n hE d_P_exchangeBlows_91 0 rfl ?_
        refine gf_P_11 hc hp d_P_exchangeBlows_92 ?_
        refine x_iload_n hE d_P_exchangeBlows_95 1 rfl ?_
        refine x_aald (b := 17 + 8 * p) hc (xc_shV hp) rfl (by omega) (by decide) d_P_exchangeBlows_96 ?_
        refine x_aload_n hE d_P_exchangeBlows_97 0 rfl ?_
        refine gf_P_17 hc hp d_P_exchangeBlows_98 ?_
        refine x_iload_n hE d_P_exchangeBlows_101 1 rfl ?_
        refine x_iald hc (xc_shO hp) rfl (by omega) (by decide) d_P_exchangeBlows_102 (hlo u (by omega)) ?_
        refine ca_P_170 hc (by omega) d_P_exchangeBlows_103 (k_U_suffer (by omega) hat hx.1 (by omega)) (fun τ hq => ?_)
        obtain ⟨f1, f2, f3⟩ := hq
        refine x_iinc 1 (nI (_ + 1)) [(1, _), (0, _)] hE d_P_exchangeBlows_106 rfl (nI_inc _) (by decide) rfl ?_
        refine x_goto hE d_P_exchangeBlows_109 ?_
        refine x_lv [1, 0] (lv' := [(0, _), (1, _)]) rfl ?_
        refine ih (u + 1) _ (by omega) ?_ (fun v hv => ?_) (fun v hv => ?_) (hf.tr (f2.fr (by omega)))
        · have h5 := hpl2.set hp hn (show u < 8 by omega) f1 f2.one
          have e5 : (am_set (fun v => if v < u then am_hurt (P v) (am_lost P n v) else P v) u (am_hurt (P u) (am_lost P n u))) = (fun v => if v < u + 1 then am_hurt (P v) (am_lost P n v) else P v) := by
            funext v
            by_cases e : v = u
            · subst e; rw [am_set_s, if_pos (by omega)]
            · rw [am_set_n e]
              by_cases e2 : v < u
              · rw [if_pos e2, if_pos (by omega)]
              · rw [if_neg e2, if_neg (by omega)]
          rw [e5] at h5
          exact h5
        · by_cases e : v = u
          · subst e; exact f3
          · rw [f2.2.1 _ (by omega)]; exact hh v (by omega)
        · rw [f2.2.1 _ (by omega)]; exact hlo v hv
  have first : ∀ (m u : Nat) (τ : xk_St), u + m = n → (∀ v, v < 8 → τ.1 (12 + 3 * p) v = nI (am_lost P u v)) → τ.2 = σ.2 → (∀ k, k ≠ 12 + 3 * p → τ.1 k = σ.1 k) → xk_X K (xk_vw (xc G)) τ 10 [(0, .ref (xk_wA (xc G) (10 + 3 * p))), (1, .int (nI u))] [] := by
    intro m
    induction m with
    | zero =>
      intro u τ hu hlo h2 hk
      have hpl2 : xc_pl p n P τ := hpl.mv hn (fun k hk2 => hk k (by omega))
      refine x_iload_n hE d_P_exchangeBlows_10 1 rfl ?_
      refine x_aload_n hE d_P_exchangeBlows_11 0 rfl ?_
      refine gf_P_26 hc hp d_P_exchangeBlows_12 hpl2.1 ?_
      first | refine xn_icmp_ge hE d_P_exchangeBlows_15 (fun h => ?_) (fun h => ?_) | refine x_icmp_ge hE d_P_exchangeBlows_15 (fun h => ?_) (fun h => ?_)
      · skip
        refine x_iconst (nI 0) hE d_P_exchangeBlows_81 (by decide) ?_
        refine x_istore_n [(1, _), (0, _)] hE d_P_exchangeBlows_82 rfl (by decide) rfl ?_
        refine x_lv [1, 0] (lv' := [(0, _), (1, _)]) rfl ?_
        have e0 : u = n := by omega
        subst e0
        refine second u 0 τ (by omega) ?_ (fun v hv => absurd hv (Nat.not_lt_zero _)) hlo ⟨h2, fun k hk2 => hk k (by omega), fun k h3 h4 => by rw [hk k (by omega)]; exact ⟨rfl, rfl⟩⟩
        simp only [Nat.not_lt_zero, if_false]
        exact hpl2
      · exact absurd h (by omega)
    | succ m ih =>
      intro u τ hu hlo h2 hk
      have hpl2 : xc_pl p n P τ := hpl.mv hn (fun k hk2 => hk k (by omega))
      have hat := hpl2.2 u (by omega)
      have hx := hok u (by omega)
      have ho := hx.2.2.1
      have next : ∀ (τ2 : xk_St), (∀ v, v < 8 → τ2.1 (12 + 3 * p) v = nI (am_lost P (u + 1) v)) → τ2.2 = σ.2 → (∀ k, k ≠ 12 + 3 * p → τ2.1 k = σ.1 k) → xk_X K (xk_vw (xc G)) τ2 75 [(0, .ref (xk_wA (xc G) (10 + 3 * p))), (1, .int (nI u))] [] := by
        intro τ2 g1 g2 g3
        refine x_iinc 1 (nI (_ + 1)) [(1, _), (0, _)] hE d_P_exchangeBlows_75 rfl (nI_inc _) (by decide) rfl ?_
        refine x_goto hE d_P_exchangeBlows_78 ?_
        refine x_lv [1, 0] (lv' := [(0, _), (1, _)]) rfl ?_
        exact ih (u + 1) τ2 (by omega) g1 g2 g3
      have skip : am_hits P u = false → xk_X K (xk_vw (xc G)) τ 75 [(0, .ref (xk_wA (xc G) (10 + 3 * p))), (1, .int (nI u))] [] := by
        intro hh
        refine next τ (fun v hv => ?_) h2 hk
        simp only [am_lost]
        rw [hh, if_neg (by simp)]
        exact hlo v hv
      refine x_iload_n hE d_P_exchangeBlows_10 1 rfl ?_
      refine x_aload_n hE d_P_exchangeBlows_11 0 rfl ?_
      refine gf_P_26 hc hp d_P_exchangeBlows_12 hpl2.1 ?_
      first | refine xn_icmp_ge hE d_P_exchangeBlows_15 (fun h => ?_) (fun h => ?_) | refine x_icmp_ge hE d_P_exchangeBlows_15 (fun h => ?_) (fun h => ?_)
      · exact absurd h (by omega)
      · skip
        refine x_aload_n hE d_P_exchangeBlows_18 0 rfl ?_
        refine gf_P_11 hc hp d_P_exchangeBlows_19 ?_
        refine x_iload_n hE d_P_exchangeBlows_22 1 rfl ?_
        refine x_aald (b := 17 + 8 * p) hc (xc_shV hp) rfl (by omega) (by decide) d_P_exchangeBlows_23 ?_
        refine gf_P_58 hc (by omega) d_P_exchangeBlows_24 hat.2.2.2.1 ?_
        refine x_iconst (nI 2) hE d_P_exchangeBlows_27 (by decide) ?_
        first | refine xn_icmp_ne hE d_P_exchangeBlows_28 (fun ho2 => ?_) (fun ho2 => ?_) | refine x_icmp_ne hE d_P_exchangeBlows_28 (fun ho2 => ?_) (fun ho2 => ?_)
        · exact skip (by simp [am_hits, ho2])
        · skip
          have hal := am_ok_alive hx (by omega)
          have haim := hx.2.2.2.2.1 ho2
          refine x_aload_n hE d_P_exchangeBlows_31 0 rfl ?_
          refine gf_P_11 hc hp d_P_exchangeBlows_32 ?_
          refine x_iload_n hE d_P_exchangeBlows_35 1 rfl ?_
          refine x_aald (b := 17 + 8 * p) hc (xc_shV hp) rfl (by omega) (by decide) d_P_exchangeBlows_36 ?_
          refine x_aload_n hE d_P_exchangeBlows_37 0 rfl ?_
          refine gf_P_11 hc hp d_P_exchangeBlows_38 ?_
          refine x_aload_n hE d_P_exchangeBlows_41 0 rfl ?_
          refine gf_P_11 hc hp d_P_exchangeBlows_42 ?_
          refine x_iload_n hE d_P_exchangeBlows_45 1 rfl ?_
          refine x_aald (b := 17 + 8 * p) hc (xc_shV hp) rfl (by omega) (by decide) d_P_exchangeBlows_46 ?_
          refine gf_P_113 hc (by omega) d_P_exchangeBlows_47 hat.2.2.2.2.1 ?_
          refine x_aald (b := 17 + 8 * p) hc (xc_shV hp) rfl (by omega) (by decide) d_P_exchangeBlows_50 ?_
          refine ca_P_166 hc d_P_exchangeBlows_51 (k_P_reaches hp hn (show u < n by omega) haim hpl2 hok hal) (fun r τ hq => ?_)
          obtain ⟨rfl, rfl⟩ := hq
          by_cases hre : 0 < am_pts (P (am_aim (P u))) ∧ am_dist (am_til (P u)) (am_til (P (am_aim (P u)))) = 1
          · rw [if_pos hre]
            first | refine xn_if_eq hE d_P_exchangeBlows_54 (fun z => ?_) (fun z => ?_) | refine x_if_eq hE d_P_exchangeBlows_54 (fun z => ?_) (fun z => ?_)
            · exact absurd z (by decide)
            · skip
              have hle := am_lost_le P u (am_aim (P u))
              refine x_aload_n hE d_P_exchangeBlows_57 0 rfl ?_
              refine gf_P_17 hc hp d_P_exchangeBlows_58 ?_
              refine x_aload_n hE d_P_exchangeBlows_61 0 rfl ?_
              refine gf_P_11 hc hp d_P_exchangeBlows_62 ?_
              refine x_iload_n hE d_P_exchangeBlows_65 1 rfl ?_
              refine x_aald (b := 17 + 8 * p) hc (xc_shV hp) rfl (by omega) (by decide) d_P_exchangeBlows_66 ?_
              refine gf_P_113 hc (by omega) d_P_exchangeBlows_67 hat.2.2.2.2.1 ?_
              refine x_dup2 hE d_P_exchangeBlows_70 rfl rfl ?_
              refine x_iald hc (xc_shO hp) rfl (by omega) (by decide) d_P_exchangeBlows_71 (hlo _ (by omega)) ?_
              refine x_iconst (nI 3) hE d_P_exchangeBlows_72 (by decide) ?_
              first | refine xn_iadd hE d_P_exchangeBlows_73 ?_ | refine x_iadd hE d_P_exchangeBlows_73 ?_
              refine x_iast hc (xc_shO hp) rfl (by omega) (by decide) d_P_exchangeBlows_74 ?_
              refine next _ (fun v hv => ?_) h2 (fun k hk2 => by rw [xk_up_o hk2]; exact hk k hk2)
              have hh : am_hits P u = true := by simp [am_hits, ho2, hre.1, hre.2]
              simp only [am_lost]
              rw [hh, if_pos rfl, xk_up_s]
              by_cases e : v = am_aim (P u)
              · subst e; rw [if_pos rfl, am_set_s]
              · rw [if_neg e, am_set_n e]; exact hlo v hv
          · rw [if_neg hre]
            first | refine xn_if_eq hE d_P_exchangeBlows_54 (fun z => ?_) (fun z => ?_) | refine x_if_eq hE d_P_exchangeBlows_54 (fun z => ?_) (fun z => ?_)
            · refine skip ?_
              cases hh : am_hits P u with
              | false => rfl
              | true =>
                simp [am_hits] at hh
                exact absurd ⟨hh.1.2, hh.2⟩ hre
            · exact absurd rfl z
  refine first n 0 _ (by omega) (fun v hv => ?_) rfl (fun k hk => xk_row_o hk)
  rw [xk_row_s, if_pos hv]
  rfl
theorem k_P_restAll (hp : p < 2) (hn : n ≤ 8) (hpl : xc_pl p n P σ) (hok : am_okP n P) {q : Nat → Nat} (hq : ∀ u, u < n → σ.1 (17 + 8 * p + u) 7 = nI (if 0 < q u then 1 else 0)) : xk_M (xc G) 2 y_P_restAll [.ref (xk_wA (xc G) (10 + 3 * p))] σ (xk_pv (fun τ => xc_pl p n (fun u => if u < n then am_rest (P u) (q u) else P u) τ ∧ xc_fr p σ τ)) := by
  refine xk_enter (by decide) (Nat.le_of_ble_eq_true rfl) (fun K hE hc => ?_)
  show xk_X K _ _ 0 [(0, _)] []
  refine x_iconst (nI 0) hE d_P_restAll_0 (by decide) ?_
  refine x_istore_n [(1, _), (0, _)] hE d_P_restAll_1 rfl (by decide) rfl ?_
  refine x_lv [1, 0] (lv' := [(0, _), (1, _)]) rfl ?_
  have loop : ∀ (m u : Nat) (τ : xk_St), u + m = n → xc_pl p n (fun v => if v < u then am_rest (P v) (q v) else P v) τ → (∀ v, u ≤ v → v < n → τ.1 (17 + 8 * p + v) 7 = nI (if 0 < q v then 1 else 0)) → xc_fr p σ τ → xk_X K (xk_vw (xc G)) τ 2 [(0, .ref (xk_wA (xc G) (10 + 3 * p))), (1, .int (nI u))] [] := by
    intro m
    induction m with
    | zero =>
      intro u τ hu hpl2 hh hf
      refine x_iload_n hE d_P_restAll_2 1 rfl ?_
      refine x_aload_n hE d_P_restAll_3 0 rfl ?_
      refine gf_P_26 hc hp d_P_restAll_4 hpl2.1 ?_
      first | refine xn_icmp_ge hE d_P_restAll_7 (fun h => ?_) (fun h => ?_) | refine x_icmp_ge hE d_P_restAll_7 (fun h => ?_) (fun h => ?_)
      · skip
        have e0 : u = n := by omega
        subst e0
        exact x_ret hc d_P_restAll_25 (⟨hpl2, hf⟩)
      · exact absurd h (by omega)
    | succ m ih =>
      intro u τ hu hpl2 hh hf
      have hat := hpl2.2 u (by omega)
      simp only [Nat.lt_irrefl, if_false] at hat
      have hx := hok u (by omega)
      refine x_iload_n hE d_P_restAll_2 1 rfl ?_
      refine x_aload_n hE d_P_restAll_3 0 rfl ?_
      refine gf_P_26 hc hp d_P_restAll_4 hpl2.1 ?_
      first | refine xn_icmp_ge hE d_P_restAll_7 (fun h => ?_) (fun h => ?_) | refine x_icmp_ge hE d_P_restAll_7 (fun h => ?_) (fun h => ?_)
      · exact absurd h (by omega)
      · skip
        refine x_aload_n hE d_P_restAll_10 0 rfl ?_
        refine gf_P_11 hc hp d_P_restAll_11 ?_
        refine x_iload_n hE d_P_restAll_14 1 rfl ?_
        refine x_aald (b := 17 + 8 * p) hc (xc_shV hp) rfl (by omega) (by decide) d_P_restAll_15 ?_
        refine ca_P_174 hc (by omega) d_P_restAll_16 (k_U_rest (by omega) hat hx.1 hx.2.2.1 (hh u (by omega) (by omega))) (fun τ hq => ?_)
        obtain ⟨f1, f2⟩ := hq
        refine x_iinc 1 (nI (_ + 1)) [(1, _), (0, _)] hE d_P_restAll_19 rfl (nI_inc _) (by decide) rfl ?_
        refine x_goto hE d_P_restAll_22 ?_
        refine x_lv [1, 0] (lv' := [(0, _), (1, _)]) rfl ?_
        refine ih (u + 1) _ (by omega) ?_ (fun v h1 h2 => by rw [f2.2.1 _ (by omega)]; exact hh v (by omega) h2) (hf.tr (f2.fr (by omega)))
        have h5 := hpl2.set hp hn (show u < 8 by omega) f1 f2.one
        have e5 : (am_set (fun v => if v < u then am_rest (P v) (q v) else P v) u (am_rest (P u) (q u))) = (fun v => if v < u + 1 then am_rest (P v) (q v) else P v) := by
          funext v
          by_cases e : v = u
          · subst e; rw [am_set_s, if_pos (by omega)]
          · rw [am_set_n e]
            by_cases e2 : v < u
            · rw [if_pos e2, if_pos (by omega)]
            · rw [if_neg e2, if_neg (by omega)]
        rw [e5] at h5
        exact h5
  refine loop n 0 σ (by omega) ?_ (fun v _ h2 => hq v h2) xc_fr.rf
  simp only [Nat.not_lt_zero, if_false]
  exact hpl
theorem k_P_sum (hp : p < 2) (hn : n ≤ 8) (hpl : xc_pl p n P σ) (hok : am_okP n P) : xk_M (xc G) 1 y_P_sum [.ref (xk_wA (xc G) (10 + 3 * p))] σ (xk_pi (fun r τ => r = am_sum P n ∧ σ = τ)) := by
  refine xk_enter (by decide) (Nat.le_of_ble_eq_true rfl) (fun K hE hc => ?_)
  show xk_X K _ _ 0 [(0, _)] []
  refine x_bipush (nI 17) hE d_P_sum_0 (by decide) ?_
  refine x_istore_n [(1, _), (0, _)] hE d_P_sum_2 rfl (by decide) rfl ?_
  refine x_iconst (nI 0) hE d_P_sum_3 (by decide) ?_
  refine x_istore_n [(2, _), (1, _), (0, _)] hE d_P_sum_4 rfl (by decide) rfl ?_
  refine x_lv [2, 1, 0] (lv' := [(0, _), (1, _), (2, _)]) rfl ?_
  have loop : ∀ (m u : Nat), u + m = n → xk_X K (xk_vw (xc G)) σ 5 [(0, .ref (xk_wA (xc G) (10 + 3 * p))), (1, .int (am_sum P u)), (2, .int (nI u))] [] := by
    intro m
    induction m with
    | zero =>
      intro u hu
      refine x_iload_n hE d_P_sum_5 2 rfl ?_
      refine x_aload_n hE d_P_sum_6 0 rfl ?_
      refine gf_P_26 hc hp d_P_sum_7 hpl.1 ?_
      first | refine xn_icmp_ge hE d_P_sum_10 (fun h => ?_) (fun h => ?_) | refine x_icmp_ge hE d_P_sum_10 (fun h => ?_) (fun h => ?_)
      · skip
        refine x_iload_n hE d_P_sum_73 1 rfl ?_
        have e0 : u = n := by omega
        subst e0
        exact x_iret hc d_P_sum_74 (⟨rfl, rfl⟩)
      · exact absurd h (by omega)
    | succ m ih =>
      intro u hu
      have hat := hpl.2 u (by omega)
      have hx := hok u (by omega)
      have hb := hx.1
      have next : ∀ v : Int32, v = (if am_pts (P u) = 0 then nI 0 else nI (am_til (P u))) → xk_X K (xk_vw (xc G)) σ 47 [(3, .ref (xk_wA (xc G) (17 + 8 * p + u))), (0, .ref (xk_wA (xc G) (10 + 3 * p))), (1, .int (am_sum P u)), (2, .int (nI u))] [.int v, .int (nI 31 * am_sum P u + nI 64 * nI (am_pts (P u)))] := by
        intro v hv
        refine x_iadd hE d_P_sum_47 ?_
        refine x_istore_n [(1, _), (3, _), (0, _), (2, _)] hE d_P_sum_48 rfl (by decide) rfl ?_
        refine x_bipush (nI 31) hE d_P_sum_49 (by decide) ?_
        refine x_iload_n hE d_P_sum_51 0 rfl ?_
        refine x_imul hE d_P_sum_52 ?_
        refine x_bipush (nI 8) hE d_P_sum_53 (by decide) ?_
        refine x_aload_n hE d_P_sum_55 1 rfl ?_
        refine gf_P_180 hc (by omega) d_P_sum_56 hat.2.2.2.2.2.1 ?_
        refine x_imul hE d_P_sum_59 ?_
        refine x_iadd hE d_P_sum_60 ?_
        refine x_aload_n hE d_P_sum_61 1 rfl ?_
        refine gf_P_58 hc (by omega) d_P_sum_62 hat.2.2.2.1 ?_
        refine x_iadd hE d_P_sum_65 ?_
        refine x_istore_n [(1, _), (3, _), (0, _), (2, _)] hE d_P_sum_66 rfl (by decide) rfl ?_
        refine x_iinc 3 (nI (_ + 1)) [(2, _), (1, _), (3, _), (0, _)] hE d_P_sum_67 rfl (nI_inc _) (by decide) rfl ?_
        refine x_goto hE d_P_sum_70 ?_
        refine x_lv [3, 1, 0] (lv' := [(0, _), (1, _), (2, _)]) rfl ?_
        have e9 := ih (u + 1) (by omega)
        simp only [am_sum] at e9
        rw [hv]
        exact e9
      refine x_iload_n hE d_P_sum_5 2 rfl ?_
      refine x_aload_n hE d_P_sum_6 0 rfl ?_
      refine gf_P_26 hc hp d_P_sum_7 hpl.1 ?_
      first | refine xn_icmp_ge hE d_P_sum_10 (fun h => ?_) (fun h => ?_) | refine x_icmp_ge hE d_P_sum_10 (fun h => ?_) (fun h => ?_)
      · exact absurd h (by omega)
      · skip
        refine x_aload_n hE d_P_sum_13 0 rfl ?_
        refine gf_P_11 hc hp d_P_sum_14 ?_
        refine x_iload_n hE d_P_sum_17 2 rfl ?_
        refine x_aald (b := 17 + 8 * p) hc (xc_shV hp) rfl (by omega) (by decide) d_P_sum_18 ?_
        refine x_astore_n [(3, _), (0, _), (1, _), (2, _)] hE d_P_sum_19 rfl (by decide) rfl ?_
        refine x_bipush (nI 31) hE d_P_sum_20 (by decide) ?_
        refine x_iload_n hE d_P_sum_22 2 rfl ?_
        refine x_imul hE d_P_sum_23 ?_
        refine x_bipush (nI 64) hE d_P_sum_24 (by decide) ?_
        refine x_aload_n hE d_P_sum_26 0 rfl ?_
        refine gf_P_177 hc (by omega) d_P_sum_27 hat.1 ?_
        refine x_imul hE d_P_sum_30 ?_
        refine x_iadd hE d_P_sum_31 ?_
        refine x_aload_n hE d_P_sum_32 0 rfl ?_
        refine ca_P_40 hc (by omega) d_P_sum_33 (k_U_isDead (by omega) hat.1 (by omega)) (fun r τ hq => ?_)
        obtain ⟨rfl, rfl⟩ := hq
        by_cases hd : am_pts (P u) = 0
        · rw [if_pos hd]
          first | refine xn_if_eq hE d_P_sum_36 (fun z => ?_) (fun z => ?_) | refine x_if_eq hE d_P_sum_36 (fun z => ?_) (fun z => ?_)
          · exact absurd z (by decide)
          · skip
            refine x_iconst (nI 0) hE d_P_sum_39 (by decide) ?_
            refine x_goto hE d_P_sum_40 ?_
            exact next _ (by rw [if_pos hd])
        · rw [if_neg hd]
          first | refine xn_if_eq hE d_P_sum_36 (fun z => ?_) (fun z => ?_) | refine x_if_eq hE d_P_sum_36 (fun z => ?_) (fun z => ?_)
          · skip
            refine x_aload_n hE d_P_sum_43 0 rfl ?_
            refine gf_P_75 hc (by omega) d_P_sum_44 (hat.2.1 (by omega)) ?_
            exact next _ (by rw [if_neg hd])
          · exact absurd rfl z
  exact loop n 0 (by omega)
end XP3
