/-! PLAY: reads, and what one unit does -/
/-- but for one unit's rows, and those of the search, nothing has changed -/
def xc_one (p u : Nat) (σ τ : xk_St) : Prop := τ.2 = σ.2 ∧ (∀ k, ¬ (k = 2 ∨ k = 3 ∨ k = 4 ∨ k = 17 + 8 * p + u ∨ k = 33 + 8 * p + u) → τ.1 k = σ.1 k) ∧ τ.1 (17 + 8 * p + u) 0 = σ.1 (17 + 8 * p + u) 0 ∧ τ.1 (17 + 8 * p + u) 1 = σ.1 (17 + 8 * p + u) 1
theorem xc_one.rf {p u : Nat} {σ : xk_St} : xc_one p u σ σ := ⟨rfl, fun _ _ => rfl, rfl, rfl⟩
theorem xc_one.tr {p u : Nat} {σ τ υ : xk_St} (h : xc_one p u σ τ) (g : xc_one p u τ υ) : xc_one p u σ υ := ⟨g.1.trans h.1, fun k hk => (g.2.1 k hk).trans (h.2.1 k hk), g.2.2.1.trans h.2.2.1, g.2.2.2.trans h.2.2.2⟩
theorem xc_own.one {p u : Nat} {σ τ : xk_St} (h : xc_own (17 + 8 * p + u) σ τ) : xc_one p u σ τ := ⟨h.1, fun k hk => h.2.1 k (by omega), h.2.2.1, h.2.2.2⟩
theorem xc_one.fr {p u : Nat} {σ τ : xk_St} (hu : u < 8) (h : xc_one p u σ τ) : xc_fr p σ τ :=
  ⟨h.1, fun k hk => h.2.1 k (by omega), fun k h1 h2 => by
    by_cases e : k = 17 + 8 * p + u
    · subst e; exact h.2.2
    · rw [h.2.1 k (by omega)]; exact ⟨rfl, rfl⟩⟩
theorem xc_pl.set {p n u : Nat} {P : am_P} {σ τ : xk_St} {x : am_U} (h : xc_pl p n P σ) (hp : p < 2) (hn : n ≤ 8) (hu : u < 8) (hx : xc_at τ (17 + 8 * p + u) x) (ho : xc_one p u σ τ) : xc_pl p n (am_set P u x) τ := by
  refine ⟨by rw [ho.2.1 (10 + 3 * p) (by omega)]; exact h.1, fun v hv => ?_⟩
  by_cases e : v = u
  · subst e; rw [am_set_s]; exact hx
  · rw [am_set_n e]
    have h1 := h.2 v hv
    unfold xc_at at h1 ⊢
    rw [ho.2.1 (17 + 8 * p + v) (by omega), ho.2.1 (17 + 8 * p + v + 16) (by omega)]
    exact h1
theorem am_set_id {α : Type} (f : Nat → α) (k : Nat) : am_set f k (f k) = f := by
  funext j
  by_cases e : j = k
  · subst e; rw [am_set_s]
  · rw [am_set_n e]
theorem am_set_set {α : Type} (f : Nat → α) (k : Nat) (a b : α) : am_set (am_set f k a) k b = am_set f k b := by
  funext j
  by_cases e : j = k
  · subst e; rw [am_set_s, am_set_s]
  · rw [am_set_n e, am_set_n e, am_set_n e]
theorem am_taken_cong {P Q : am_P} {t : Nat} : ∀ n, (∀ u, u < n → am_pts (P u) = am_pts (Q u) ∧ am_til (P u) = am_til (Q u)) → am_taken P t n = am_taken Q t n
  | 0, _ => rfl
  | n + 1, h => by
    simp only [am_taken]
    rw [am_taken_cong n (fun u hu => h u (by omega)), (h n (by omega)).1, (h n (by omega)).2]
theorem am_taken_set {P : am_P} {t u n : Nat} {x : am_U} (h1 : am_pts x = am_pts (P u)) (h2 : am_til x = am_til (P u)) : am_taken (am_set P u x) t n = am_taken P t n := by
  refine am_taken_cong n (fun v _ => ?_)
  by_cases e : v = u
  · subst e; rw [am_set_s]; exact ⟨h1, h2⟩
  · rw [am_set_n e]; exact ⟨rfl, rfl⟩
/-- is there a unit of that number -/
abbrev am_has (n : Nat) (u : Int32) : Prop := ¬ u < 0 ∧ ¬ nI n ≤ u
theorem am_has_of {n : Nat} {u : Int32} (hn : n < 2 ^ 31) (h : am_has n u) : ∃ j, j < n ∧ u = nI j := by
  rcases pk_ix u hn with h1 | h1 | h1
  · exact absurd h1 h.1
  · exact absurd h1 h.2
  · exact h1
theorem am_has_nI {n j : Nat} (hn : n < 2 ^ 31) (h : j < n) : am_has n (nI j) := ⟨nI_pos (by omega), nI_ge h hn⟩
section XPl
variable {G : xk_D} {σ : xk_St} {p n : Nat} {P : am_P}
theorem k_P_has (hp : p < 2) (hc1 : σ.1 (10 + 3 * p) 3 = nI n) {u : Int32} : xk_M (xc G) 0 y_P_has [.ref (xk_wA (xc G) (10 + 3 * p)), .int u] σ (xk_pi (fun r τ => ((r = nI 1 ∧ am_has n u) ∨ (r = nI 0 ∧ ¬ am_has n u)) ∧ σ = τ)) := by
  refine xk_enter (by decide) (Nat.le_of_ble_eq_true rfl) (fun K hE hc => ?_)
  show xk_X K _ _ 0 [(0, _), (1, _)] []
  refine x_iload_n hE d_P_has_0 1 rfl ?_
  refine x_if_lt hE d_P_has_1 (fun h => ?_) (fun h => ?_)
  · skip
    refine x_iconst (nI 0) hE d_P_has_16 (by decide) ?_
    exact x_zret hc d_P_has_17 (by first | exact Or.inl rfl | exact Or.inr rfl | assumption | omega) (⟨Or.inr ⟨rfl, fun z => z.1 h⟩, rfl⟩)
  · skip
    refine x_iload_n hE d_P_has_4 1 rfl ?_
    refine x_aload_n hE d_P_has_5 0 rfl ?_
    refine gf_P_26 hc hp d_P_has_6 hc1 ?_
    refine x_icmp_ge hE d_P_has_9 (fun g => ?_) (fun g => ?_)
    · skip
      refine x_iconst (nI 0) hE d_P_has_16 (by decide) ?_
      exact x_zret hc d_P_has_17 (by first | exact Or.inl rfl | exact Or.inr rfl | assumption | omega) (⟨Or.inr ⟨rfl, fun z => z.2 g⟩, rfl⟩)
    · skip
      refine x_iconst (nI 1) hE d_P_has_12 (by decide) ?_
      refine x_goto hE d_P_has_13 ?_
      exact x_zret hc d_P_has_17 (by first | exact Or.inl rfl | exact Or.inr rfl | assumption | omega) (⟨Or.inl ⟨rfl, h, g⟩, rfl⟩)
/-- one of a side lives among the first u -/
def am_liv (sd : Nat → Nat) (P : am_P) (s : Nat) : Nat → Bool
  | 0 => false
  | u + 1 => am_liv sd P s u || (decide (sd u = s) && decide (0 < am_pts (P u)))
theorem am_liv_up {sd : Nat → Nat} {P : am_P} {s u : Nat} (h : am_liv sd P s u = true) : ∀ m, am_liv sd P s (u + m) = true
  | 0 => h
  | m + 1 => by
    show (am_liv sd P s (u + m) || _) = true
    rw [am_liv_up h m]
    rfl
theorem k_P_hasLiving (hp : p < 2) (hn : n ≤ 8) (hpl : xc_pl p n P σ) (hok : am_okP n P) {sd : Nat → Nat} {s : Nat} (hs : s < 2) (hsd : ∀ u, u < n → σ.1 (17 + 8 * p + u) 0 = nI (sd u) ∧ sd u < 2) : xk_M (xc G) 1 y_P_hasLiving [.ref (xk_wA (xc G) (10 + 3 * p)), .int (nI s)] σ (xk_pi (fun r τ => r = (if am_liv sd P s n = true then nI 1 else nI 0) ∧ σ = τ)) := by
  refine xk_enter (by decide) (Nat.le_of_ble_eq_true rfl) (fun K hE hc => ?_)
  show xk_X K _ _ 0 [(0, _), (1, _)] []
  refine x_iconst (nI 0) hE d_P_hasLiving_0 (by decide) ?_
  refine x_istore_n [(2, _), (0, _), (1, _)] hE d_P_hasLiving_1 rfl (by decide) rfl ?_
  refine x_lv [1, 2, 0] (lv' := [(0, _), (1, _), (2, _)]) rfl ?_
  have loop : ∀ (m u : Nat), u + m = n → am_liv sd P s u = false → xk_X K (xk_vw (xc G)) σ 2 [(0, .ref (xk_wA (xc G) (10 + 3 * p))), (1, .int (nI s)), (2, .int (nI u))] [] := by
    intro m
    induction m with
    | zero =>
      intro u hu hl
      refine x_iload_n hE d_P_hasLiving_2 2 rfl ?_
      refine x_aload_n hE d_P_hasLiving_3 0 rfl ?_
      refine gf_P_26 hc hp d_P_hasLiving_4 hpl.1 ?_
      first | refine xn_icmp_ge hE d_P_hasLiving_7 (fun h => ?_) (fun h => ?_) | refine x_icmp_ge hE d_P_hasLiving_7 (fun h => ?_) (fun h => ?_)
      · skip
        refine x_iconst (nI 0) hE d_P_hasLiving_43 (by decide) ?_
        have e : u = n := by omega
        subst e
        exact x_zret hc d_P_hasLiving_44 (by first | exact Or.inl rfl | exact Or.inr rfl | assumption | omega) (⟨by rw [hl]; rfl, rfl⟩)
      · exact absurd h (by omega)
    | succ m ih =>
      intro u hu hl
      obtain ⟨g1, g2⟩ := hsd u (by omega)
      have hb := (hok u (by omega)).1
      have next : am_liv sd P s (u + 1) = false → xk_X K (xk_vw (xc G)) σ 37 [(0, .ref (xk_wA (xc G) (10 + 3 * p))), (1, .int (nI s)), (2, .int (nI u))] [] := by
        intro hl2
        refine x_iinc 2 (nI (_ + 1)) [(2, _), (0, _), (1, _)] hE d_P_hasLiving_37 rfl (nI_inc _) (by decide) rfl ?_
        refine x_goto hE d_P_hasLiving_40 ?_
        refine x_lv [1, 2, 0] (lv' := [(0, _), (1, _), (2, _)]) rfl ?_
        exact ih (u + 1) (by omega) hl2
      refine x_iload_n hE d_P_hasLiving_2 2 rfl ?_
      refine x_aload_n hE d_P_hasLiving_3 0 rfl ?_
      refine gf_P_26 hc hp d_P_hasLiving_4 hpl.1 ?_
      first | refine xn_icmp_ge hE d_P_hasLiving_7 (fun h => ?_) (fun h => ?_) | refine x_icmp_ge hE d_P_hasLiving_7 (fun h => ?_) (fun h => ?_)
      · exact absurd h (by omega)
      · skip
        refine x_aload_n hE d_P_hasLiving_10 0 rfl ?_
        refine gf_P_11 hc hp d_P_hasLiving_11 ?_
        refine x_iload_n hE d_P_hasLiving_14 2 rfl ?_
        refine x_aald (b := 17 + 8 * p) hc (xc_shV hp) rfl (by omega) (by decide) d_P_hasLiving_15 ?_
        refine gf_P_37 hc (by omega) d_P_hasLiving_16 g1 ?_
        refine x_iload_n hE d_P_hasLiving_19 1 rfl ?_
        first | refine xn_icmp_ne hE d_P_hasLiving_20 (fun h2 => ?_) (fun h2 => ?_) | refine x_icmp_ne hE d_P_hasLiving_20 (fun h2 => ?_) (fun h2 => ?_)
        · exact next (by simp [am_liv, hl, h2])
        · skip
          refine x_aload_n hE d_P_hasLiving_23 0 rfl ?_
          refine gf_P_11 hc hp d_P_hasLiving_24 ?_
          refine x_iload_n hE d_P_hasLiving_27 2 rfl ?_
          refine x_aald (b := 17 + 8 * p) hc (xc_shV hp) rfl (by omega) (by decide) d_P_hasLiving_28 ?_
          refine ca_P_40 hc (by omega) d_P_hasLiving_29 (k_U_isDead (by omega) (hpl.2 u (by omega)).1 (by omega)) (fun r τ hq => ?_)
          obtain ⟨rfl, rfl⟩ := hq
          by_cases hd : am_pts (P u) = 0
          · rw [if_pos hd]
            first | refine xn_if_ne hE d_P_hasLiving_32 (fun z => ?_) (fun z => ?_) | refine x_if_ne hE d_P_hasLiving_32 (fun z => ?_) (fun z => ?_)
            · exact next (by simp [am_liv, hl, hd])
            · exact absurd z (by decide)
          · rw [if_neg hd]
            first | refine xn_if_ne hE d_P_hasLiving_32 (fun z => ?_) (fun z => ?_) | refine x_if_ne hE d_P_hasLiving_32 (fun z => ?_) (fun z => ?_)
            · exact absurd rfl z
            · skip
              refine x_iconst (nI 1) hE d_P_hasLiving_35 (by decide) ?_
              have h5 : am_liv sd P s (u + 1) = true := by simp [am_liv, h2]; omega
              have h6 := am_liv_up h5 m
              rw [show u + 1 + m = n by omega] at h6
              exact x_zret hc d_P_hasLiving_36 (by first | exact Or.inl rfl | exact Or.inr rfl | assumption | omega) (⟨by rw [h6]; rfl, rfl⟩)
  exact loop n 0 (by omega) rfl
theorem k_P_takenTiles (hp : p < 2) (hn : n ≤ 8) (hpl : xc_pl p n P σ) (hok : am_okP n P) : xk_M (xc G) 1 y_P_takenTiles [.ref (xk_wA (xc G) (10 + 3 * p))] σ (xk_pl (fun r τ => (∀ t, t < 64 → xb_t r t = am_taken P t n) ∧ σ = τ)) := by
  refine xk_enter (by decide) (Nat.le_of_ble_eq_true rfl) (fun K hE hc => ?_)
  show xk_X K _ _ 0 [(0, _)] []
  refine x_lconst 0 hE d_P_takenTiles_0 (by decide) ?_
  refine x_lstore_n [(1, _), (0, _)] hE d_P_takenTiles_1 rfl (by decide) rfl ?_
  refine x_iconst (nI 0) hE d_P_takenTiles_2 (by decide) ?_
  refine x_istore_n [(3, _), (1, _), (0, _)] hE d_P_takenTiles_3 rfl (by decide) rfl ?_
  refine x_lv [2, 1, 0] (lv' := [(0, _), (1, _), (3, _)]) rfl ?_
  have loop : ∀ (m u : Nat) (T : Int64), u + m = n → (∀ t, t < 64 → xb_t T t = am_taken P t u) → xk_X K (xk_vw (xc G)) σ 4 [(0, .ref (xk_wA (xc G) (10 + 3 * p))), (1, .long T), (3, .int (nI u))] [] := by
    intro m
    induction m with
    | zero =>
      intro u T hu hT
      refine x_iload_n hE d_P_takenTiles_4 2 rfl ?_
      refine x_aload_n hE d_P_takenTiles_5 0 rfl ?_
      refine gf_P_26 hc hp d_P_takenTiles_6 hpl.1 ?_
      first | refine xn_icmp_ge hE d_P_takenTiles_9 (fun h => ?_) (fun h => ?_) | refine x_icmp_ge hE d_P_takenTiles_9 (fun h => ?_) (fun h => ?_)
      · skip
        refine x_lload_n hE d_P_takenTiles_45 1 rfl ?_
        have e : u = n := by omega
        subst e
        exact x_lret hc d_P_takenTiles_46 (⟨hT, rfl⟩)
      · exact absurd h (by omega)
    | succ m ih =>
      intro u T hu hT
      have hb := hok u (by omega)
      have hat := hpl.2 u (by omega)
      have next : ∀ T2 : Int64, (∀ t, t < 64 → xb_t T2 t = am_taken P t (u + 1)) → xk_X K (xk_vw (xc G)) σ 39 [(0, .ref (xk_wA (xc G) (10 + 3 * p))), (1, .long T2), (3, .int (nI u))] [] := by
        intro T2 hT2
        refine x_iinc 2 (nI (_ + 1)) [(3, _), (0, _), (1, _)] hE d_P_takenTiles_39 rfl (nI_inc _) (by decide) rfl ?_
        refine x_goto hE d_P_takenTiles_42 ?_
        refine x_lv [1, 2, 0] (lv' := [(0, _), (1, _), (3, _)]) rfl ?_
        exact ih (u + 1) T2 (by omega) hT2
      refine x_iload_n hE d_P_takenTiles_4 2 rfl ?_
      refine x_aload_n hE d_P_takenTiles_5 0 rfl ?_
      refine gf_P_26 hc hp d_P_takenTiles_6 hpl.1 ?_
      first | refine xn_icmp_ge hE d_P_takenTiles_9 (fun h => ?_) (fun h => ?_) | refine x_icmp_ge hE d_P_takenTiles_9 (fun h => ?_) (fun h => ?_)
      · exact absurd h (by omega)
      · skip
        refine x_aload_n hE d_P_takenTiles_12 0 rfl ?_
        refine gf_P_11 hc hp d_P_takenTiles_13 ?_
        refine x_iload_n hE d_P_takenTiles_16 2 rfl ?_
        refine x_aald (b := 17 + 8 * p) hc (xc_shV hp) rfl (by omega) (by decide) d_P_takenTiles_17 ?_
        refine ca_P_40 hc (by omega) d_P_takenTiles_18 (k_U_isDead (by omega) hat.1 (by have := hb.1; omega)) (fun r τ hq => ?_)
        obtain ⟨rfl, rfl⟩ := hq
        by_cases hd : am_pts (P u) = 0
        · rw [if_pos hd]
          first | refine xn_if_ne hE d_P_takenTiles_21 (fun z => ?_) (fun z => ?_) | refine x_if_ne hE d_P_takenTiles_21 (fun z => ?_) (fun z => ?_)
          · refine next T (fun t ht => ?_)
            rw [hT t ht]
            simp [am_taken, hd]
          · exact absurd z (by decide)
        · rw [if_neg hd]
          first | refine xn_if_ne hE d_P_takenTiles_21 (fun z => ?_) (fun z => ?_) | refine x_if_ne hE d_P_takenTiles_21 (fun z => ?_) (fun z => ?_)
          · exact absurd rfl z
          · skip
            refine x_lload_n hE d_P_takenTiles_24 1 rfl ?_
            refine x_aload_n hE d_P_takenTiles_25 0 rfl ?_
            refine gf_P_11 hc hp d_P_takenTiles_26 ?_
            refine x_iload_n hE d_P_takenTiles_29 2 rfl ?_
            refine x_aald (b := 17 + 8 * p) hc (xc_shV hp) rfl (by omega) (by decide) d_P_takenTiles_30 ?_
            refine gf_P_75 hc (by omega) d_P_takenTiles_31 (hat.2.1 (by omega)) ?_
            refine ca_P_48 hc d_P_takenTiles_34 (k_G_bit) (fun r τ hq => ?_)
            obtain ⟨rfl, rfl⟩ := hq
            refine x_lor hE d_P_takenTiles_37 ?_
            refine x_lstore_n [(1, _), (0, _), (3, _)] hE d_P_takenTiles_38 rfl (by decide) rfl ?_
            refine x_lv [1, 0, 2] (lv' := [(0, _), (1, _), (3, _)]) rfl ?_
            refine next _ (fun t ht => ?_)
            rw [xb_or, xb_bit _ hb.2.1 t ht, hT t ht]
            have hd2 : 0 < am_pts (P u) := by omega
            by_cases e : t = am_til (P u)
            · simp [am_taken, hd2, e]
            · simp [am_taken, hd2, e, Ne.symm e]
  exact loop n 0 0 (by omega) (fun t _ => by rw [xb_zero]; rfl)
theorem k_P_isTaken (hp : p < 2) (hn : n ≤ 8) (hpl : xc_pl p n P σ) (hok : am_okP n P) {t : Nat} (ht : t < 64) : xk_M (xc G) 2 y_P_isTaken [.ref (xk_wA (xc G) (10 + 3 * p)), .int (nI t)] σ (xk_pi (fun r τ => r = (if am_taken P t n = true then nI 1 else nI 0) ∧ σ = τ)) := by
  refine xk_enter (by decide) (Nat.le_of_ble_eq_true rfl) (fun K hE hc => ?_)
  show xk_X K _ _ 0 [(0, _), (1, _)] []
  refine x_aload_n hE d_P_isTaken_0 0 rfl ?_
  refine ca_P_44 hc hp d_P_isTaken_1 (k_P_takenTiles hp hn hpl hok) (fun r τ hq => ?_)
  obtain ⟨hT, rfl⟩ := hq
  refine x_iload_n hE d_P_isTaken_4 1 rfl ?_
  refine ca_P_48 hc d_P_isTaken_5 (k_G_bit) (fun r τ hq => ?_)
  obtain ⟨rfl, rfl⟩ := hq
  refine x_land hE d_P_isTaken_8 ?_
  refine x_lconst 0 hE d_P_isTaken_9 (by decide) ?_
  refine x_lcmp hE d_P_isTaken_10 ?_
  refine x_if_eq hE d_P_isTaken_11 (fun h => ?_) (fun h => ?_)
  · skip
    refine x_iconst (nI 0) hE d_P_isTaken_18 (by decide) ?_
    rw [xb_test ht, hT t ht] at h
    exact x_zret hc d_P_isTaken_19 (by first | exact Or.inl rfl | exact Or.inr rfl | assumption | omega) (⟨by rw [h]; rfl, rfl⟩)
  · skip
    refine x_iconst (nI 1) hE d_P_isTaken_14 (by decide) ?_
    refine x_goto hE d_P_isTaken_15 ?_
    rw [xb_test ht, hT t ht] at h
    have h2 : am_taken P t n = true := by simpa using h
    exact x_zret hc d_P_isTaken_19 (by first | exact Or.inl rfl | exact Or.inr rfl | assumption | omega) (⟨by rw [h2]; rfl, rfl⟩)
theorem k_P_place (hp : p < 2) (hn : n < 8) (hc1 : σ.1 (10 + 3 * p) 3 = nI n) {s t : Int32} : xk_M (xc G) 4 y_P_place [.ref (xk_wA (xc G) (10 + 3 * p)), .int s, .int t] σ (xk_pi (fun r τ => r = nI n ∧ τ = xk_up (xu_settle σ (17 + 8 * p + n) s t) (10 + 3 * p) 3 (nI (n + 1)))) := by
  have e1 : (xu_settle σ (17 + 8 * p + n) s t).1 (10 + 3 * p) 3 = nI n := by
    simp only [xu_settle]
    rw [xu_restart_o (by omega), xk_up_o (by omega), xk_up_o (by omega)]
    exact hc1
  refine xk_enter (by decide) (Nat.le_of_ble_eq_true rfl) (fun K hE hc => ?_)
  show xk_X K _ _ 0 [(0, _), (1, _), (2, _)] []
  refine x_aload_n hE d_P_place_0 0 rfl ?_
  refine gf_P_11 hc hp d_P_place_1 ?_
  refine x_aload_n hE d_P_place_4 0 rfl ?_
  refine gf_P_26 hc hp d_P_place_5 hc1 ?_
  refine x_aald (b := 17 + 8 * p) hc (xc_shV hp) rfl (by omega) (by decide) d_P_place_8 ?_
  refine x_iload_n hE d_P_place_9 1 rfl ?_
  refine x_iload_n hE d_P_place_10 2 rfl ?_
  refine ca_P_30 hc (by omega) d_P_place_11 (k_U_settle (by omega)) (fun τ hq => ?_)
  obtain rfl := hq
  refine x_aload_n hE d_P_place_14 0 rfl ?_
  refine x_dup hE d_P_place_15 rfl ?_
  refine gf_P_26 hc hp d_P_place_16 e1 ?_
  refine x_iconst (nI 1) hE d_P_place_19 (by decide) ?_
  first | refine xn_iadd hE d_P_place_20 ?_ | refine x_iadd hE d_P_place_20 ?_
  refine pf_P_26 hc hp d_P_place_21 ?_
  refine x_aload_n hE d_P_place_24 0 rfl ?_
  refine gf_P_26 hc hp d_P_place_25 (by rw [xk_up_s, if_pos rfl]) ?_
  refine x_iconst (nI 1) hE d_P_place_28 (by decide) ?_
  first | refine xn_isub hE d_P_place_29 ?_ | refine x_isub hE d_P_place_29 ?_
  exact x_iret hc d_P_place_30 (⟨rfl, rfl⟩)
theorem k_P_restart (hp : p < 2) (hn : n ≤ 8) (hc1 : σ.1 (10 + 3 * p) 3 = nI n) {stt : Nat → Nat} (hst : ∀ u, u < n → σ.1 (17 + 8 * p + u) 1 = nI (stt u)) : xk_M (xc G) 3 y_P_restart [.ref (xk_wA (xc G) (10 + 3 * p))] σ (xk_pv (fun τ => xc_pl p n (fun u => (20, stt u, 0, 0, 0, [])) τ ∧ xc_fr p σ τ)) := by
  refine xk_enter (by decide) (Nat.le_of_ble_eq_true rfl) (fun K hE hc => ?_)
  show xk_X K _ _ 0 [(0, _)] []
  refine x_iconst (nI 0) hE d_P_restart_0 (by decide) ?_
  refine x_istore_n [(1, _), (0, _)] hE d_P_restart_1 rfl (by decide) rfl ?_
  refine x_lv [1, 0] (lv' := [(0, _), (1, _)]) rfl ?_
  have loop : ∀ (m u : Nat) (τ : xk_St), u + m = n → xc_fr p σ τ → (∀ v, v < u → xc_at τ (17 + 8 * p + v) (20, stt v, 0, 0, 0, [])) → xk_X K (xk_vw (xc G)) τ 2 [(0, .ref (xk_wA (xc G) (10 + 3 * p))), (1, .int (nI u))] [] := by
    intro m
    induction m with
    | zero =>
      intro u τ hu hf hat
      have hc2 : τ.1 (10 + 3 * p) 3 = nI n := by rw [hf.2.1 (10 + 3 * p) (by omega)]; exact hc1
      refine x_iload_n hE d_P_restart_2 1 rfl ?_
      refine x_aload_n hE d_P_restart_3 0 rfl ?_
      refine gf_P_26 hc hp d_P_restart_4 hc2 ?_
      first | refine xn_icmp_ge hE d_P_restart_7 (fun h => ?_) (fun h => ?_) | refine x_icmp_ge hE d_P_restart_7 (fun h => ?_) (fun h => ?_)
      · skip
        exact x_ret hc d_P_restart_25 (⟨⟨hc2, fun v hv => hat v (by omega)⟩, hf⟩)
      · exact absurd h (by omega)
    | succ m ih =>
      intro u τ hu hf hat
      have hc2 : τ.1 (10 + 3 * p) 3 = nI n := by rw [hf.2.1 (10 + 3 * p) (by omega)]; exact hc1
      refine x_iload_n hE d_P_restart_2 1 rfl ?_
      refine x_aload_n hE d_P_restart_3 0 rfl ?_
      refine gf_P_26 hc hp d_P_restart_4 hc2 ?_
      first | refine xn_icmp_ge hE d_P_restart_7 (fun h => ?_) (fun h => ?_) | refine x_icmp_ge hE d_P_restart_7 (fun h => ?_) (fun h => ?_)
      · exact absurd h (by omega)
      · skip
        refine x_aload_n hE d_P_restart_10 0 rfl ?_
        refine gf_P_11 hc hp d_P_restart_11 ?_
        refine x_iload_n hE d_P_restart_14 1 rfl ?_
        refine x_aald (b := 17 + 8 * p) hc (xc_shV hp) rfl (by omega) (by decide) d_P_restart_15 ?_
        refine ca_P_34 hc (by omega) d_P_restart_16 (k_U_restart (by omega)) (fun τ hq => ?_)
        obtain rfl := hq
        refine x_iinc 1 (nI (_ + 1)) [(1, _), (0, _)] hE d_P_restart_19 rfl (nI_inc _) (by decide) rfl ?_
        refine x_goto hE d_P_restart_22 ?_
        refine x_lv [1, 0] (lv' := [(0, _), (1, _)]) rfl ?_
        obtain ⟨e1, e2⟩ := xu_restart_at (σ := τ) (k := 17 + 8 * p + u) (t := stt u) (by rw [(hf.2.2 (17 + 8 * p + u) (by omega) (by omega)).2]; exact hst u (by omega))
        refine ih (u + 1) _ (by omega) (hf.tr (e2.fr (by omega))) (fun v hv => ?_)
        by_cases e : v = u
        · subst e; exact e1
        · have h1 := hat v (by omega)
          unfold xc_at at h1 ⊢
          rw [e2.2.1 _ (by omega), e2.2.1 _ (by omega)]
          exact h1
  exact loop n 0 σ (by omega) xc_fr.rf (fun v hv => absurd hv (Nat.not_lt_zero _))
end XPl
