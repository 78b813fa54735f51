/-! PLAY: a tick -/
section XP4
variable {G : xk_D} {σ : xk_St} {p n : Nat} {P : am_P} {W : Nat → Bool}
theorem am_sum_cong {P Q : am_P} : ∀ n, (∀ u, u < n → P u = Q u) → am_sum P n = am_sum Q n
  | 0, _ => rfl
  | n + 1, h => by
    simp only [am_sum]
    rw [am_sum_cong n (fun u hu => h u (by omega)), h n (by omega)]
theorem xc_pl.cong {P Q : am_P} (h : xc_pl p n P σ) (e : ∀ u, u < n → P u = Q u) : xc_pl p n Q σ := ⟨h.1, fun u hu => by rw [← e u hu]; exact h.2 u hu⟩
theorem k_P_playTick (hp : p < 2) (hn : n ≤ 8) (hpl : xc_pl p n P σ) (hok : am_okP n P) (hW : xc_W W σ) {cnt t : Nat} {L : am_L} (ht : t < 2 ^ 31) (hL : xc_L cnt L σ) (hLo : am_okL n cnt L) : xk_M (xc G) 5 y_P_playTick [.ref (xk_wA (xc G) (10 + 3 * p)), .int (nI t), .ref (xk_wA (xc G) 5)] σ (xk_pi (fun r τ => r = am_num W n cnt L t P ∧ xc_pl p n (am_tick W n cnt L t P) τ ∧ xc_fr p σ τ)) := by
  refine xk_enter (by decide) (Nat.le_of_ble_eq_true rfl) (fun K hE hc => ?_)
  show xk_X K _ _ 0 [(0, _), (1, _), (2, _)] []
  refine x_aload_n hE d_P_playTick_0 0 rfl ?_
  refine x_iload_n hE d_P_playTick_1 1 rfl ?_
  refine x_aload_n hE d_P_playTick_2 2 rfl ?_
  refine ca_P_54 hc hp d_P_playTick_3 (k_P_giveOrders hp hn hpl hok hL hLo) (fun τ hq => ?_)
  obtain ⟨o1, o2⟩ := hq
  have hokO := am_okP_obey (t := nI t) hok hLo cnt (Nat.le_refl _)
  refine x_iconst (nI 0) hE d_P_playTick_6 (by decide) ?_
  refine x_istore_n [(3, _), (0, _), (1, _), (2, _)] hE d_P_playTick_7 rfl (by decide) rfl ?_
  refine x_lv [1, 2, 3, 0] (lv' := [(0, _), (1, _), (2, _), (3, _)]) rfl ?_
  have fin : ∀ (τ : xk_St), xc_pl p n (am_tick W n cnt L t P) τ → xc_fr p σ τ → xk_X K (xk_vw (xc G)) τ 59 [(0, .ref (xk_wA (xc G) (10 + 3 * p))), (1, .int (nI t)), (2, .ref (xk_wA (xc G) 5)), (3, .int (nI n))] [] := by
    intro τ h1 h2
    refine x_aload_n hE d_P_playTick_59 0 rfl ?_
    refine ca_P_71 hc hp d_P_playTick_60 (k_P_sum hp hn h1 (am_okP_tick hok hLo)) (fun r τ hq => ?_)
    obtain ⟨rfl, rfl⟩ := hq
    exact x_iret hc d_P_playTick_63 (⟨rfl, h1, h2⟩)
  have loop : ∀ (m u : Nat) (τ : xk_St), u + m = n → xc_pl p n (am_moves W n (am_obey L (nI t) P cnt) u) τ → xc_fr p σ τ → xk_X K (xk_vw (xc G)) τ 8 [(0, .ref (xk_wA (xc G) (10 + 3 * p))), (1, .int (nI t)), (2, .ref (xk_wA (xc G) 5)), (3, .int (nI u))] [] := by
    intro m
    induction m with
    | zero =>
      intro u τ hu hpl2 hf
      refine x_iload_n hE d_P_playTick_8 3 rfl ?_
      refine x_aload_n hE d_P_playTick_9 0 rfl ?_
      refine gf_P_26 hc hp d_P_playTick_10 hpl2.1 ?_
      first | refine xn_icmp_ge hE d_P_playTick_13 (fun h => ?_) (fun h => ?_) | refine x_icmp_ge hE d_P_playTick_13 (fun h => ?_) (fun h => ?_)
      · skip
        have e0 : u = n := by omega
        subst e0
        have hok2 := am_okP_moves (W := W) hokO u (Nat.le_refl _)
        refine x_aload_n hE d_P_playTick_44 0 rfl ?_
        refine ca_P_65 hc hp d_P_playTick_45 (k_P_exchangeBlows hp hn hpl2 hok2) (fun τ hq => ?_)
        obtain ⟨b1, b2, b3⟩ := hq
        have hok3 : am_okP u (am_blow u (am_moves W u (am_obey L (nI t) P cnt) u)) := fun v hv => by
          unfold am_blow
          rw [if_pos hv]
          exact am_ok_hurt (hok2 v hv)
        refine x_iload_n hE d_P_playTick_48 1 rfl ?_
        refine x_iconst (nI 4) hE d_P_playTick_49 (by decide) ?_
        first | refine xn_irem hE d_P_playTick_50 ?_ | refine x_irem hE d_P_playTick_50 (by decide) ?_
        refine x_iconst (nI 3) hE d_P_playTick_51 (by decide) ?_
        first | refine xn_icmp_ne hE d_P_playTick_52 (fun h4 => ?_) (fun h4 => ?_) | refine x_icmp_ne hE d_P_playTick_52 (fun h4 => ?_) (fun h4 => ?_)
        · refine fin _ (b1.cong (fun v hv => ?_)) (hf.tr b3)
          unfold am_tick am_calm
          rw [if_neg (fun q => h4 q.2)]
        · skip
          refine x_aload_n hE d_P_playTick_55 0 rfl ?_
          refine ca_P_68 hc hp d_P_playTick_56 (k_P_restAll hp hn b1 hok3 b2) (fun τ hq => ?_)
          obtain ⟨r1, r2⟩ := hq
          refine fin _ (r1.cong (fun v hv => ?_)) ((hf.tr b3).tr r2)
          unfold am_tick am_calm
          rw [if_pos hv, if_pos ⟨hv, h4⟩]
      · exact absurd h (by omega)
    | succ m ih =>
      intro u τ hu hpl2 hf
      have hok2 := am_okP_moves (W := W) hokO u (by omega)
      have hat := hpl2.2 u (by omega)
      have ho := (hok2 u (by omega)).2.2.1
      have next : ∀ (τ2 : xk_St), xc_pl p n (am_moves W n (am_obey L (nI t) P cnt) (u + 1)) τ2 → xc_fr p σ τ2 → xk_X K (xk_vw (xc G)) τ2 38 [(0, .ref (xk_wA (xc G) (10 + 3 * p))), (1, .int (nI t)), (2, .ref (xk_wA (xc G) 5)), (3, .int (nI u))] [] := by
        intro τ2 g1 g2
        refine x_iinc 3 (nI (_ + 1)) [(3, _), (0, _), (1, _), (2, _)] hE d_P_playTick_38 rfl (nI_inc _) (by decide) rfl ?_
        refine x_goto hE d_P_playTick_41 ?_
        refine x_lv [1, 2, 3, 0] (lv' := [(0, _), (1, _), (2, _), (3, _)]) rfl ?_
        exact ih (u + 1) τ2 (by omega) g1 g2
      refine x_iload_n hE d_P_playTick_8 3 rfl ?_
      refine x_aload_n hE d_P_playTick_9 0 rfl ?_
      refine gf_P_26 hc hp d_P_playTick_10 hpl2.1 ?_
      first | refine xn_icmp_ge hE d_P_playTick_13 (fun h => ?_) (fun h => ?_) | refine x_icmp_ge hE d_P_playTick_13 (fun h => ?_) (fun h => ?_)
      · exact absurd h (by omega)
      · skip
        refine x_aload_n hE d_P_playTick_16 0 rfl ?_
        refine gf_P_11 hc hp d_P_playTick_17 ?_
        refine x_iload_n hE d_P_playTick_20 3 rfl ?_
        refine x_aald (b := 17 + 8 * p) hc (xc_shV hp) rfl (by omega) (by decide) d_P_playTick_21 ?_
        refine gf_P_58 hc (by omega) d_P_playTick_22 hat.2.2.2.1 ?_
        first | refine xn_if_eq hE d_P_playTick_25 (fun h2 => ?_) (fun h2 => ?_) | refine x_if_eq hE d_P_playTick_25 (fun h2 => ?_) (fun h2 => ?_)
        · refine next τ ?_ hf
          simp only [am_moves]
          rw [if_pos h2]
          exact hpl2
        · skip
          refine x_aload_n hE d_P_playTick_28 0 rfl ?_
          refine x_aload_n hE d_P_playTick_29 0 rfl ?_
          refine gf_P_11 hc hp d_P_playTick_30 ?_
          refine x_iload_n hE d_P_playTick_33 3 rfl ?_
          refine x_aald (b := 17 + 8 * p) hc (xc_shV hp) rfl (by omega) (by decide) d_P_playTick_34 ?_
          refine ca_P_61 hc hp d_P_playTick_35 (k_P_follow hp hn (show u < n by omega) hpl2 hok2 h2 (hW.mv hf.1)) (fun τ hq => ?_)
          obtain ⟨f1, f2⟩ := hq
          refine next _ ?_ (hf.tr (f2.fr (by omega)))
          simp only [am_moves]
          rw [if_neg h2]
          exact hpl2.set hp hn (by omega) f1 f2
  exact loop n 0 _ (by omega) o1 o2
end XP4
