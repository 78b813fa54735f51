/-! THE REFERENCE: its world, and its leaves -/
def xm_W (W : Nat → Bool) (σ : xk_St) : Prop := ∀ t, t < 64 → σ.1 1 t = (if W t = true then nI 1 else nI 0)
def xm_at (σ : xk_St) (u : Nat) (x : am_U) : Prop := σ.1 9 u = nI (am_pts x) ∧ (0 < am_pts x → σ.1 10 u = nI (am_til x)) ∧ σ.1 11 u = nI (am_ord x) ∧ σ.1 12 u = nI (am_aim x) ∧ σ.1 13 u = nI (am_pat x) ∧ σ.1 15 u = nI (am_pth x).length ∧ (am_pth x).length ≤ 64 ∧ ∀ i (h : i < (am_pth x).length), σ.1 14 (64 * u + i) = nI ((am_pth x)[i])
def xm_pl (n : Nat) (P : am_P) (σ : xk_St) : Prop := σ.1 0 1 = nI n ∧ ∀ u, u < n → xm_at σ u (P u)
def xm_one (u : Nat) (σ τ : xk_St) : Prop := τ.2 = σ.2 ∧ (∀ k, k < 9 ∨ (15 < k ∧ k < 23) ∨ 25 < k → τ.1 k = σ.1 k) ∧ (∀ k v, v ≠ u → k ≠ 14 → 9 ≤ k → k ≤ 15 → τ.1 k v = σ.1 k v) ∧ ∀ i, i < 64 * u ∨ 64 * u + 64 ≤ i → τ.1 14 i = σ.1 14 i
def xm_fr (σ τ : xk_St) : Prop := τ.2 = σ.2 ∧ ∀ k, k < 9 ∨ (15 < k ∧ k < 23) ∨ 26 < k → τ.1 k = σ.1 k
theorem xm_fr.rf {σ : xk_St} : xm_fr σ σ := ⟨rfl, fun _ _ => rfl⟩
theorem xm_fr.tr {σ τ υ : xk_St} (h : xm_fr σ τ) (g : xm_fr τ υ) : xm_fr σ υ := ⟨g.1.trans h.1, fun k hk => (g.2 k hk).trans (h.2 k hk)⟩
theorem xm_one.rf {u : Nat} {σ : xk_St} : xm_one u σ σ := ⟨rfl, fun _ _ => rfl, fun _ _ _ _ _ _ => rfl, fun _ _ => rfl⟩
theorem xm_one.tr {u : Nat} {σ τ υ : xk_St} (h : xm_one u σ τ) (g : xm_one u τ υ) : xm_one u σ υ := ⟨g.1.trans h.1, fun k hk => (g.2.1 k hk).trans (h.2.1 k hk), fun k v a b c d => (g.2.2.1 k v a b c d).trans (h.2.2.1 k v a b c d), fun i hi => (g.2.2.2 i hi).trans (h.2.2.2 i hi)⟩
theorem xm_one.fr {u : Nat} {σ τ : xk_St} (h : xm_one u σ τ) : xm_fr σ τ := ⟨h.1, fun k hk => h.2.1 k (by omega)⟩
theorem xm_one.up {u k : Nat} {σ : xk_St} {v : Int32} (h1 : 9 ≤ k) (h2 : k ≤ 15) (h3 : k ≠ 14) : xm_one u σ (xk_up σ k u v) := by
  refine ⟨rfl, fun j hj => xk_up_o (by omega), fun j w hw _ _ _ => ?_, fun i _ => by rw [xk_up_o (by omega)]⟩
  by_cases e : j = k
  · subst e; rw [xk_up_s, if_neg hw]
  · rw [xk_up_o e]
theorem xm_pl.set {n u : Nat} {P : am_P} {σ τ : xk_St} {x : am_U} (h : xm_pl n P σ) (hx : xm_at τ u x) (ho : xm_one u σ τ) : xm_pl n (am_set P u x) τ := by
  refine ⟨by rw [ho.2.1 0 (by omega)]; exact h.1, fun v hv => ?_⟩
  by_cases e : v = u
  · subst e; rw [am_set_s]; exact hx
  · rw [am_set_n e]
    obtain ⟨h1, h2, h3, h4, h5, h6, h7, h8⟩ := h.2 v hv
    refine ⟨?_, fun q => ?_, ?_, ?_, ?_, ?_, h7, fun i hi => ?_⟩
    · rw [ho.2.2.1 9 v e (by omega) (by omega) (by omega)]; exact h1
    · rw [ho.2.2.1 10 v e (by omega) (by omega) (by omega)]; exact h2 q
    · rw [ho.2.2.1 11 v e (by omega) (by omega) (by omega)]; exact h3
    · rw [ho.2.2.1 12 v e (by omega) (by omega) (by omega)]; exact h4
    · rw [ho.2.2.1 13 v e (by omega) (by omega) (by omega)]; exact h5
    · rw [ho.2.2.1 15 v e (by omega) (by omega) (by omega)]; exact h6
    · rw [ho.2.2.2 _ (by omega)]; exact h8 i hi
theorem xm_pl.mv {n : Nat} {P : am_P} {σ τ : xk_St} (h : xm_pl n P σ) (e : ∀ k, k = 0 ∨ (9 ≤ k ∧ k ≤ 15) → τ.1 k = σ.1 k) : xm_pl n P τ := by
  refine ⟨by rw [e 0 (by omega)]; exact h.1, fun v hv => ?_⟩
  have h1 := h.2 v hv
  unfold xm_at at h1 ⊢
  rw [e 9 (by omega), e 10 (by omega), e 11 (by omega), e 12 (by omega), e 13 (by omega), e 14 (by omega), e 15 (by omega)]
  exact h1
theorem xm_W.mv {W : Nat → Bool} {σ τ : xk_St} (h : xm_W W σ) (e : τ.1 1 = σ.1 1) : xm_W W τ := fun t ht => by rw [e]; exact h t ht
section XM1
variable {G : xk_D} {σ : xk_St} {n : Nat} {P : am_P} {W : Nat → Bool}
theorem k_M_isTile {t : Int32} : xk_M (xm G) 0 y_M_isTile [.int t] σ (xk_pi (fun r τ => ((r = nI 1 ∧ am_has 64 t) ∨ (r = nI 0 ∧ ¬ am_has 64 t)) ∧ σ = τ)) := by
  refine xk_enter (by decide) (Nat.le_of_ble_eq_true rfl) (fun K hE hc => ?_)
  show xk_X K _ _ 0 [(0, _)] []
  refine x_iload_n hE d_M_isTile_0 0 rfl ?_
  refine x_if_lt hE d_M_isTile_1 (fun h => ?_) (fun h => ?_)
  · skip
    refine x_iconst (nI 0) hE d_M_isTile_14 (by decide) ?_
    exact x_zret hc d_M_isTile_15 (by first | exact Or.inl rfl | exact Or.inr rfl | assumption | omega) (⟨Or.inr ⟨rfl, fun z => z.1 h⟩, rfl⟩)
  · skip
    refine x_iload_n hE d_M_isTile_4 0 rfl ?_
    refine x_bipush (nI 64) hE d_M_isTile_5 (by decide) ?_
    refine x_icmp_ge hE d_M_isTile_7 (fun g => ?_) (fun g => ?_)
    · skip
      refine x_iconst (nI 0) hE d_M_isTile_14 (by decide) ?_
      exact x_zret hc d_M_isTile_15 (by first | exact Or.inl rfl | exact Or.inr rfl | assumption | omega) (⟨Or.inr ⟨rfl, fun z => z.2 g⟩, rfl⟩)
    · skip
      refine x_iconst (nI 1) hE d_M_isTile_10 (by decide) ?_
      refine x_goto hE d_M_isTile_11 ?_
      exact x_zret hc d_M_isTile_15 (by first | exact Or.inl rfl | exact Or.inr rfl | assumption | omega) (⟨Or.inl ⟨rfl, h, g⟩, rfl⟩)
theorem k_M_isUnit (hc1 : σ.1 0 1 = nI n) {u : Int32} : xk_M (xm G) 0 y_M_isUnit [.ref (xk_wA (xm G) 0), .int u] σ (xk_pi (fun r τ => ((r = nI 1 ∧ am_has n u) ∨ (r = nI 0 ∧ ¬ am_has n u)) ∧ σ = τ)) := by
  refine xk_enter (by decide) (Nat.le_of_ble_eq_true rfl) (fun K hE hc => ?_)
  show xk_X K _ _ 0 [(0, _), (1, _)] []
  refine x_iload_n hE d_M_isUnit_0 1 rfl ?_
  refine x_if_lt hE d_M_isUnit_1 (fun h => ?_) (fun h => ?_)
  · skip
    refine x_iconst (nI 0) hE d_M_isUnit_16 (by decide) ?_
    exact x_zret hc d_M_isUnit_17 (by first | exact Or.inl rfl | exact Or.inr rfl | assumption | omega) (⟨Or.inr ⟨rfl, fun z => z.1 h⟩, rfl⟩)
  · skip
    refine x_iload_n hE d_M_isUnit_4 1 rfl ?_
    refine x_aload_n hE d_M_isUnit_5 0 rfl ?_
    refine gf_M_89 hc d_M_isUnit_6 hc1 ?_
    refine x_icmp_ge hE d_M_isUnit_9 (fun g => ?_) (fun g => ?_)
    · skip
      refine x_iconst (nI 0) hE d_M_isUnit_16 (by decide) ?_
      exact x_zret hc d_M_isUnit_17 (by first | exact Or.inl rfl | exact Or.inr rfl | assumption | omega) (⟨Or.inr ⟨rfl, fun z => z.2 g⟩, rfl⟩)
    · skip
      refine x_iconst (nI 1) hE d_M_isUnit_12 (by decide) ?_
      refine x_goto hE d_M_isUnit_13 ?_
      exact x_zret hc d_M_isUnit_17 (by first | exact Or.inl rfl | exact Or.inr rfl | assumption | omega) (⟨Or.inl ⟨rfl, h, g⟩, rfl⟩)
theorem k_M_isTaken (hn : n ≤ 8) (hpl : xm_pl n P σ) (hok : am_okP n P) {t : Nat} (ht : t < 64) : xk_M (xm G) 0 y_M_isTaken [.ref (xk_wA (xm G) 0), .int (nI t)] σ (xk_pi (fun r τ => r = (if am_taken P t n = true then nI 1 else nI 0) ∧ σ = τ)) := by
  refine xk_enter (by decide) (Nat.le_of_ble_eq_true rfl) (fun K hE hc => ?_)
  show xk_X K _ _ 0 [(0, _), (1, _)] []
  refine x_iconst (nI 0) hE d_M_isTaken_0 (by decide) ?_
  refine x_istore_n [(2, _), (0, _), (1, _)] hE d_M_isTaken_1 rfl (by decide) rfl ?_
  refine x_iconst (nI 0) hE d_M_isTaken_2 (by decide) ?_
  refine x_istore_n [(3, _), (2, _), (0, _), (1, _)] hE d_M_isTaken_3 rfl (by decide) rfl ?_
  refine x_lv [2, 3, 1, 0] (lv' := [(0, _), (1, _), (2, _), (3, _)]) rfl ?_
  have loop : ∀ (m u : Nat), u + m = n → xk_X K (xk_vw (xm G)) σ 4 [(0, .ref (xk_wA (xm G) 0)), (1, .int (nI t)), (2, .int (nI (if am_taken P t u = true then 1 else 0))), (3, .int (nI u))] [] := by
    intro m
    induction m with
    | zero =>
      intro u hu
      refine x_iload_n hE d_M_isTaken_4 3 rfl ?_
      refine x_aload_n hE d_M_isTaken_5 0 rfl ?_
      refine gf_M_89 hc d_M_isTaken_6 hpl.1 ?_
      first | refine xn_icmp_ge hE d_M_isTaken_9 (fun h => ?_) (fun h => ?_) | refine x_icmp_ge hE d_M_isTaken_9 (fun h => ?_) (fun h => ?_)
      · skip
        refine x_iload_n hE d_M_isTaken_47 2 rfl ?_
        have e : u = n := by omega
        subst e
        refine x_zret hc d_M_isTaken_48 (by split; exact Or.inr rfl; exact Or.inl rfl) ⟨?_, rfl⟩
        split <;> rfl
      · exact absurd h (by omega)
    | succ m ih =>
      intro u hu
      have hat := hpl.2 u (by omega)
      have hx := hok u (by omega)
      have hb := hx.1
      have htl := hx.2.1
      have next : ∀ v : Nat, v = (if am_taken P t (u + 1) = true then 1 else 0) → xk_X K (xk_vw (xm G)) σ 40 [(0, .ref (xk_wA (xm G) 0)), (1, .int (nI t)), (2, .int (nI (if am_taken P t u = true then 1 else 0))), (3, .int (nI u))] [.int (nI v)] := by
        intro v hv
        refine x_istore_n [(2, _), (0, _), (1, _), (3, _)] hE d_M_isTaken_40 rfl (by decide) rfl ?_
        refine x_iinc 3 (nI (_ + 1)) [(3, _), (2, _), (0, _), (1, _)] hE d_M_isTaken_41 rfl (nI_inc _) (by decide) rfl ?_
        refine x_goto hE d_M_isTaken_44 ?_
        refine x_lv [2, 3, 1, 0] (lv' := [(0, _), (1, _), (2, _), (3, _)]) rfl ?_
        rw [hv]
        exact ih (u + 1) (by omega)
      refine x_iload_n hE d_M_isTaken_4 3 rfl ?_
      refine x_aload_n hE d_M_isTaken_5 0 rfl ?_
      refine gf_M_89 hc d_M_isTaken_6 hpl.1 ?_
      first | refine xn_icmp_ge hE d_M_isTaken_9 (fun h => ?_) (fun h => ?_) | refine x_icmp_ge hE d_M_isTaken_9 (fun h => ?_) (fun h => ?_)
      · exact absurd h (by omega)
      · skip
        cases htk : am_taken P t u with
        | true =>
          rw [htk] at next
          refine x_iload_n hE d_M_isTaken_12 2 rfl ?_
          first | refine xn_if_ne hE d_M_isTaken_13 (fun z => ?_) (fun z => ?_) | refine x_if_ne hE d_M_isTaken_13 (fun z => ?_) (fun z => ?_)
          · skip
            refine x_iconst (nI 1) hE d_M_isTaken_35 (by decide) ?_
            refine x_goto hE d_M_isTaken_36 ?_
            exact next 1 (by simp [am_taken, htk])
          · exact absurd z (by decide)
        | false =>
          rw [htk] at next
          refine x_iload_n hE d_M_isTaken_12 2 rfl ?_
          first | refine xn_if_ne hE d_M_isTaken_13 (fun z => ?_) (fun z => ?_) | refine x_if_ne hE d_M_isTaken_13 (fun z => ?_) (fun z => ?_)
          · exact absurd rfl z
          · skip
            refine x_aload_n hE d_M_isTaken_16 0 rfl ?_
            refine gf_M_35 hc d_M_isTaken_17 ?_
            refine x_iload_n hE d_M_isTaken_20 3 rfl ?_
            refine x_iald hc rfl rfl (by omega) (by decide) d_M_isTaken_21 hat.1 ?_
            first | refine xn_if_le hE d_M_isTaken_22 (fun h2 => ?_) (fun h2 => ?_) | refine x_if_le hE d_M_isTaken_22 (fun h2 => ?_) (fun h2 => ?_)
            · skip
              refine x_iconst (nI 0) hE d_M_isTaken_39 (by decide) ?_
              exact next 0 (by simp [am_taken, htk, h2])
            · skip
              refine x_aload_n hE d_M_isTaken_25 0 rfl ?_
              refine gf_M_38 hc d_M_isTaken_26 ?_
              refine x_iload_n hE d_M_isTaken_29 3 rfl ?_
              refine x_iald hc rfl rfl (by omega) (by decide) d_M_isTaken_30 (hat.2.1 (by omega)) ?_
              refine x_iload_n hE d_M_isTaken_31 1 rfl ?_
              first | refine xn_icmp_ne hE d_M_isTaken_32 (fun h3 => ?_) (fun h3 => ?_) | refine x_icmp_ne hE d_M_isTaken_32 (fun h3 => ?_) (fun h3 => ?_)
              · skip
                refine x_iconst (nI 0) hE d_M_isTaken_39 (by decide) ?_
                exact next 0 (by simp [am_taken, htk, h3])
              · skip
                refine x_iconst (nI 1) hE d_M_isTaken_35 (by decide) ?_
                refine x_goto hE d_M_isTaken_36 ?_
                exact next 1 (by simp [am_taken, h3, h2])
  exact loop n 0 (by omega)
theorem k_M_beside {t d : Nat} (ht : t < 64) (hd : d < 4) : xk_M (xm G) 0 y_M_beside [.int (nI t), .int (nI d)] σ (xk_pi (fun r τ => r = xc_o (am_beside t d) ∧ σ = τ)) := by
  refine xk_enter (by decide) (Nat.le_of_ble_eq_true rfl) (fun K hE hc => ?_)
  show xk_X K _ _ 0 [(0, _), (1, _)] []
  refine x_iload_n hE d_M_beside_0 0 rfl ?_
  refine x_bipush (nI 8) hE d_M_beside_1 (by decide) ?_
  first | refine xn_irem hE d_M_beside_3 ?_ | refine x_irem hE d_M_beside_3 (by decide) ?_
  refine x_istore_n [(2, _), (0, _), (1, _)] hE d_M_beside_4 rfl (by decide) rfl ?_
  refine x_iload_n hE d_M_beside_5 1 rfl ?_
  refine x_bipush (nI 8) hE d_M_beside_6 (by decide) ?_
  first | refine xn_idiv hE d_M_beside_8 ?_ | refine x_idiv hE d_M_beside_8 (by decide) ?_
  refine x_istore_n [(3, _), (2, _), (0, _), (1, _)] hE d_M_beside_9 rfl (by decide) rfl ?_
  refine x_iload_n hE d_M_beside_10 3 rfl ?_
  first | refine xn_if_ne hE d_M_beside_11 (fun h0 => ?_) (fun h0 => ?_) | refine x_if_ne hE d_M_beside_11 (fun h0 => ?_) (fun h0 => ?_)
  · skip
    refine x_iload_n hE d_M_beside_27 3 rfl ?_
    refine x_iconst (nI 1) hE d_M_beside_28 (by decide) ?_
    first | refine xn_icmp_ne hE d_M_beside_29 (fun h1 => ?_) (fun h1 => ?_) | refine x_icmp_ne hE d_M_beside_29 (fun h1 => ?_) (fun h1 => ?_)
    · skip
      refine x_iload_n hE d_M_beside_46 3 rfl ?_
      refine x_iconst (nI 2) hE d_M_beside_47 (by decide) ?_
      first | refine xn_icmp_ne hE d_M_beside_48 (fun h2 => ?_) (fun h2 => ?_) | refine x_icmp_ne hE d_M_beside_48 (fun h2 => ?_) (fun h2 => ?_)
      · skip
        have e : d = 3 := by omega
        subst e
        refine x_iload_n hE d_M_beside_66 1 rfl ?_
        first | refine xn_if_le hE d_M_beside_67 (fun h => ?_) (fun h => ?_) | refine x_if_le hE d_M_beside_67 (fun h => ?_) (fun h => ?_)
        · skip
          refine x_iconst (-1) hE d_M_beside_76 (by decide) ?_
          exact x_iret hc d_M_beside_77 (⟨by simp [am_beside, xc_o, show ¬ 0 < t % 8 by omega], rfl⟩)
        · skip
          refine x_iload_n hE d_M_beside_70 2 rfl ?_
          refine x_iconst (nI 1) hE d_M_beside_71 (by decide) ?_
          first | refine xn_isub hE d_M_beside_72 ?_ | refine x_isub hE d_M_beside_72 ?_
          refine x_goto hE d_M_beside_73 ?_
          exact x_iret hc d_M_beside_77 (⟨by simp [am_beside, xc_o, show 0 < t % 8 by omega], rfl⟩)
      · skip
        subst h2
        refine x_iload_n hE d_M_beside_51 0 rfl ?_
        refine x_bipush (nI 7) hE d_M_beside_52 (by decide) ?_
        first | refine xn_icmp_ge hE d_M_beside_54 (fun h => ?_) (fun h => ?_) | refine x_icmp_ge hE d_M_beside_54 (fun h => ?_) (fun h => ?_)
        · skip
          refine x_iconst (-1) hE d_M_beside_64 (by decide) ?_
          exact x_iret hc d_M_beside_65 (⟨by simp [am_beside, xc_o, show ¬ t < 56 by omega], rfl⟩)
        · skip
          refine x_iload_n hE d_M_beside_57 2 rfl ?_
          refine x_bipush (nI 8) hE d_M_beside_58 (by decide) ?_
          first | refine xn_iadd hE d_M_beside_60 ?_ | refine x_iadd hE d_M_beside_60 ?_
          refine x_goto hE d_M_beside_61 ?_
          exact x_iret hc d_M_beside_65 (⟨by simp [am_beside, xc_o, show t < 56 by omega], rfl⟩)
    · skip
      subst h1
      refine x_iload_n hE d_M_beside_32 1 rfl ?_
      refine x_bipush (nI 7) hE d_M_beside_33 (by decide) ?_
      first | refine xn_icmp_ge hE d_M_beside_35 (fun h => ?_) (fun h => ?_) | refine x_icmp_ge hE d_M_beside_35 (fun h => ?_) (fun h => ?_)
      · skip
        refine x_iconst (-1) hE d_M_beside_44 (by decide) ?_
        exact x_iret hc d_M_beside_45 (⟨by simp [am_beside, xc_o, show ¬ t % 8 < 7 by omega], rfl⟩)
      · skip
        refine x_iload_n hE d_M_beside_38 2 rfl ?_
        refine x_iconst (nI 1) hE d_M_beside_39 (by decide) ?_
        first | refine xn_iadd hE d_M_beside_40 ?_ | refine x_iadd hE d_M_beside_40 ?_
        refine x_goto hE d_M_beside_41 ?_
        exact x_iret hc d_M_beside_45 (⟨by simp [am_beside, xc_o, show t % 8 < 7 by omega], rfl⟩)
  · skip
    subst h0
    refine x_iload_n hE d_M_beside_14 0 rfl ?_
    first | refine xn_if_le hE d_M_beside_15 (fun h => ?_) (fun h => ?_) | refine x_if_le hE d_M_beside_15 (fun h => ?_) (fun h => ?_)
    · skip
      refine x_iconst (-1) hE d_M_beside_25 (by decide) ?_
      exact x_iret hc d_M_beside_26 (⟨by simp [am_beside, xc_o, show ¬ 8 ≤ t by omega], rfl⟩)
    · skip
      refine x_iload_n hE d_M_beside_18 2 rfl ?_
      refine x_bipush (nI 8) hE d_M_beside_19 (by decide) ?_
      first | refine xn_isub hE d_M_beside_21 ?_ | refine x_isub hE d_M_beside_21 ?_
      refine x_goto hE d_M_beside_22 ?_
      exact x_iret hc d_M_beside_26 (⟨by simp [am_beside, xc_o, show 8 ≤ t by omega], rfl⟩)
theorem xj_dif1 {a b : Nat} (ha : a < 2 ^ 30) (hb : b < 2 ^ 30) : (0 ≤ nI a - nI b → nI a - nI b = nI (am_dif a b)) ∧ (¬ 0 ≤ nI a - nI b → -(nI a - nI b) = nI (am_dif a b)) := by
  have h := xj_dif ha hb
  constructor
  · intro q; rw [if_pos q] at h; exact h
  · intro q; rw [if_neg q, Int32.zero_sub] at h; exact h
theorem k_M_distance {a b : Nat} (ha : a < 64) (hb : b < 64) : xk_M (xm G) 0 y_M_distance [.int (nI a), .int (nI b)] σ (xk_pi (fun r τ => r = nI (am_dist a b) ∧ σ = τ)) := by
  have d1 := xj_dif1 (a := a % 8) (b := b % 8) (by omega) (by omega)
  have d2 := xj_dif1 (a := a / 8) (b := b / 8) (by omega) (by omega)
  refine xk_enter (by decide) (Nat.le_of_ble_eq_true rfl) (fun K hE hc => ?_)
  show xk_X K _ _ 0 [(0, _), (1, _)] []
  refine x_iload_n hE d_M_distance_0 0 rfl ?_
  refine x_bipush (nI 8) hE d_M_distance_1 (by decide) ?_
  first | refine xn_irem hE d_M_distance_3 ?_ | refine x_irem hE d_M_distance_3 (by decide) ?_
  refine x_iload_n hE d_M_distance_4 1 rfl ?_
  refine x_bipush (nI 8) hE d_M_distance_5 (by decide) ?_
  first | refine xn_irem hE d_M_distance_7 ?_ | refine x_irem hE d_M_distance_7 (by decide) ?_
  refine x_isub hE d_M_distance_8 ?_
  refine x_istore_n [(2, _), (0, _), (1, _)] hE d_M_distance_9 rfl (by decide) rfl ?_
  refine x_iload_n hE d_M_distance_10 1 rfl ?_
  refine x_bipush (nI 8) hE d_M_distance_11 (by decide) ?_
  first | refine xn_idiv hE d_M_distance_13 ?_ | refine x_idiv hE d_M_distance_13 (by decide) ?_
  refine x_iload_n hE d_M_distance_14 2 rfl ?_
  refine x_bipush (nI 8) hE d_M_distance_15 (by decide) ?_
  first | refine xn_idiv hE d_M_distance_17 ?_ | refine x_idiv hE d_M_distance_17 (by decide) ?_
  refine x_isub hE d_M_distance_18 ?_
  refine x_istore_n [(3, _), (2, _), (0, _), (1, _)] hE d_M_distance_19 rfl (by decide) rfl ?_
  have last : ∀ v w : Int32, v = nI (am_dif (a / 8) (b / 8)) → w = nI (am_dif (a % 8) (b % 8)) → xk_X K (xk_vw (xm G)) σ 40 [(3, .int (nI (a / 8) - nI (b / 8))), (2, .int (nI (a % 8) - nI (b % 8))), (0, .int (nI a)), (1, .int (nI b))] [.int v, .int w] := by
    intro v w hv hw
    subst hv
    subst hw
    first | refine xn_iadd hE d_M_distance_40 ?_ | refine x_iadd hE d_M_distance_40 ?_
    exact x_iret hc d_M_distance_41 (⟨rfl, rfl⟩)
  have mid : ∀ w : Int32, w = nI (am_dif (a % 8) (b % 8)) → xk_X K (xk_vw (xm G)) σ 30 [(3, .int (nI (a / 8) - nI (b / 8))), (2, .int (nI (a % 8) - nI (b % 8))), (0, .int (nI a)), (1, .int (nI b))] [.int w] := by
    intro w hw
    refine x_iload_n hE d_M_distance_30 0 rfl ?_
    refine x_if_ge hE d_M_distance_31 (fun h => ?_) (fun h => ?_)
    · skip
      refine x_iload_n hE d_M_distance_39 0 rfl ?_
      exact last _ _ (d2.1 h) hw
    · skip
      refine x_iload_n hE d_M_distance_34 0 rfl ?_
      refine x_ineg hE d_M_distance_35 ?_
      refine x_goto hE d_M_distance_36 ?_
      exact last _ _ (d2.2 h) hw
  refine x_iload_n hE d_M_distance_20 1 rfl ?_
  refine x_if_ge hE d_M_distance_21 (fun h => ?_) (fun h => ?_)
  · skip
    refine x_iload_n hE d_M_distance_29 1 rfl ?_
    exact mid _ (d1.1 h)
  · skip
    refine x_iload_n hE d_M_distance_24 1 rfl ?_
    refine x_ineg hE d_M_distance_25 ?_
    refine x_goto hE d_M_distance_26 ?_
    exact mid _ (d1.2 h)
theorem k_M_stop {u : Nat} (hu : u < 8) : xk_M (xm G) 0 y_M_stop [.ref (xk_wA (xm G) 0), .int (nI u)] σ (xk_pv (fun τ => τ = xk_up (xk_up σ 11 u (nI 0)) 12 u (nI 0))) := by
  refine xk_enter (by decide) (Nat.le_of_ble_eq_true rfl) (fun K hE hc => ?_)
  show xk_X K _ _ 0 [(0, _), (1, _)] []
  refine x_aload_n hE d_M_stop_0 0 rfl ?_
  refine gf_M_41 hc d_M_stop_1 ?_
  refine x_iload_n hE d_M_stop_4 1 rfl ?_
  refine x_iconst (nI 0) hE d_M_stop_5 (by decide) ?_
  refine x_iast hc rfl rfl (by omega) (by decide) d_M_stop_6 ?_
  refine x_aload_n hE d_M_stop_7 0 rfl ?_
  refine gf_M_44 hc d_M_stop_8 ?_
  refine x_iload_n hE d_M_stop_11 1 rfl ?_
  refine x_iconst (nI 0) hE d_M_stop_12 (by decide) ?_
  refine x_iast hc rfl rfl (by omega) (by decide) d_M_stop_13 ?_
  exact x_ret hc d_M_stop_14 (rfl)
theorem xm_drop_at {u : Nat} {x : am_U} (h : xm_at σ u x) : xm_at (xk_up (xk_up σ 11 u (nI 0)) 12 u (nI 0)) u (am_drop x) ∧ xm_one u σ (xk_up (xk_up σ 11 u (nI 0)) 12 u (nI 0)) := by
  obtain ⟨h1, h2, h3, h4, h5, h6, h7, h8⟩ := h
  refine ⟨⟨?_, ?_, ?_, ?_, ?_, ?_, h7, fun i hi => ?_⟩, (xm_one.up (by decide) (by decide) (by decide)).tr (xm_one.up (by decide) (by decide) (by decide))⟩
  all_goals simp (disch := omega) only [xk_up_s, xk_up_o]
  · exact h1
  · exact h2
  · rfl
  · rfl
  · exact h5
  · exact h6
  · exact h8 i hi
theorem k_M_take {u m : Nat} (hu : u < 8) (hm : m ≤ 64) : xk_M (xm G) 0 y_M_take [.ref (xk_wA (xm G) 0), .int (nI u), .int (nI m)] σ (xk_pv (fun τ => (∀ i, i < m → τ.1 14 (64 * u + i) = σ.1 25 i) ∧ τ.1 15 u = nI m ∧ (∀ k, k ≠ 14 → k ≠ 15 → τ.1 k = σ.1 k) ∧ xm_one u σ τ)) := by
  refine xk_enter (by decide) (Nat.le_of_ble_eq_true rfl) (fun K hE hc => ?_)
  show xk_X K _ _ 0 [(0, _), (1, _), (2, _)] []
  refine x_iconst (nI 0) hE d_M_take_0 (by decide) ?_
  refine x_istore_n [(3, _), (0, _), (1, _), (2, _)] hE d_M_take_1 rfl (by decide) rfl ?_
  refine x_lv [1, 2, 3, 0] (lv' := [(0, _), (1, _), (2, _), (3, _)]) rfl ?_
  have loop : ∀ (q i : Nat) (τ : xk_St), i + q = m → (∀ j, j < i → τ.1 14 (64 * u + j) = σ.1 25 j) → (∀ j, j < 64 * u ∨ 64 * u + 64 ≤ j → τ.1 14 j = σ.1 14 j) → (∀ k, k ≠ 14 → τ.1 k = σ.1 k) → τ.2 = σ.2 → xk_X K (xk_vw (xm G)) τ 2 [(0, .ref (xk_wA (xm G) 0)), (1, .int (nI u)), (2, .int (nI m)), (3, .int (nI i))] [] := by
    intro q
    induction q with
    | zero =>
      intro i τ hi h1 h2 h3 h4
      refine x_iload_n hE d_M_take_2 3 rfl ?_
      refine x_iload_n hE d_M_take_3 2 rfl ?_
      first | refine xn_icmp_ge hE d_M_take_4 (fun h => ?_) (fun h => ?_) | refine x_icmp_ge hE d_M_take_4 (fun h => ?_) (fun h => ?_)
      · skip
        refine x_aload_n hE d_M_take_30 0 rfl ?_
        refine gf_M_53 hc d_M_take_31 ?_
        refine x_iload_n hE d_M_take_34 1 rfl ?_
        refine x_iload_n hE d_M_take_35 2 rfl ?_
        refine x_iast hc rfl rfl (by omega) (by decide) d_M_take_36 ?_
        refine x_ret hc d_M_take_37 ⟨fun j hj => ?_, ?_, fun k k1 k2 => ?_, h4, fun k hk => ?_, fun k v hv k1 k2 k3 => ?_, fun j hj => ?_⟩
        · rw [xk_up_o (by decide)]; exact h1 j (by omega)
        · rw [xk_up_s, if_pos rfl]
        · rw [xk_up_o k2]; exact h3 k k1
        · rw [xk_up_o (by omega)]; exact h3 k (by omega)
        · by_cases e : k = 15
          · subst e; rw [xk_up_s, if_neg hv, h3 15 (by decide)]
          · rw [xk_up_o e, h3 k k1]
        · rw [xk_up_o (by decide)]; exact h2 j hj
      · exact absurd h (by omega)
    | succ q ih =>
      intro i τ hi h1 h2 h3 h4
      refine x_iload_n hE d_M_take_2 3 rfl ?_
      refine x_iload_n hE d_M_take_3 2 rfl ?_
      first | refine xn_icmp_ge hE d_M_take_4 (fun h => ?_) (fun h => ?_) | refine x_icmp_ge hE d_M_take_4 (fun h => ?_) (fun h => ?_)
      · exact absurd h (by omega)
      · skip
        refine x_aload_n hE d_M_take_7 0 rfl ?_
        refine gf_M_50 hc d_M_take_8 ?_
        refine x_bipush (nI 64) hE d_M_take_11 (by decide) ?_
        refine x_iload_n hE d_M_take_13 1 rfl ?_
        first | refine xn_imul hE d_M_take_14 ?_ | refine x_imul hE d_M_take_14 ?_
        refine x_iload_n hE d_M_take_15 3 rfl ?_
        first | refine xn_iadd hE d_M_take_16 ?_ | refine x_iadd hE d_M_take_16 ?_
        refine x_aload_n hE d_M_take_17 0 rfl ?_
        refine gf_M_83 hc d_M_take_18 ?_
        refine x_iload_n hE d_M_take_21 3 rfl ?_
        refine x_iald hc rfl rfl (by omega) (by decide) d_M_take_22 (show _ = σ.1 25 i by rw [h3 25 (by decide)]) ?_
        refine x_iast hc rfl rfl (by omega) (by decide) d_M_take_23 ?_
        refine x_iinc 3 (nI (_ + 1)) [(3, _), (0, _), (1, _), (2, _)] hE d_M_take_24 rfl (nI_inc _) (by decide) rfl ?_
        refine x_goto hE d_M_take_27 ?_
        refine x_lv [1, 2, 3, 0] (lv' := [(0, _), (1, _), (2, _), (3, _)]) rfl ?_
        refine ih (i + 1) _ (by omega) (fun j hj => ?_) (fun j hj => ?_) (fun k hk => by rw [xk_up_o hk]; exact h3 k hk) h4
        · rw [xk_up_s]
          by_cases e : j = i
          · subst e; rw [if_pos rfl]
          · rw [if_neg (by omega)]; exact h1 j (by omega)
        · rw [xk_up_s, if_neg (by omega)]; exact h2 j hj
  exact loop m 0 σ (by omega) (fun j hj => absurd hj (Nat.not_lt_zero _)) (fun _ _ => rfl) (fun _ _ => rfl) rfl
end XM1
