/-! UNIT, second part: what the contracts say of the picture -/
section XU2
variable {G : xk_D} {σ : xk_St} {k n : Nat} {x : am_U}
theorem xu_clear_r (σ : xk_St) (k b : Nat) : (xu_clear σ k).1 k b = if b = 10 then nI 0 else if b = 9 then nI 0 else σ.1 k b := by simp only [xu_clear, xk_up_s]
theorem xu_clear_o {i : Nat} (h : i ≠ k) : (xu_clear σ k).1 i = σ.1 i := by simp only [xu_clear]; rw [xk_up_o h, xk_up_o h]
theorem xu_obey_r (σ : xk_St) (k b : Nat) (o a : Int32) : (xu_obey σ k o a).1 k b = if b = 10 then nI 0 else if b = 9 then nI 0 else if b = 6 then nI 0 else if b = 5 then a else if b = 4 then o else σ.1 k b := by simp only [xu_obey, xu_clear_r, xk_up_s]
theorem xu_obey_o {i : Nat} {o a : Int32} (h : i ≠ k) : (xu_obey σ k o a).1 i = σ.1 i := by simp only [xu_obey]; rw [xu_clear_o h, xk_up_o h, xk_up_o h, xk_up_o h]
theorem xu_drop_r (σ : xk_St) (k b : Nat) : (xu_drop σ k).1 k b = if b = 5 then nI 0 else if b = 4 then nI 0 else σ.1 k b := by simp only [xu_drop, xk_up_s]
theorem xu_drop_o {i : Nat} (h : i ≠ k) : (xu_drop σ k).1 i = σ.1 i := by simp only [xu_drop]; rw [xk_up_o h, xk_up_o h]
theorem xu_restart_r (σ : xk_St) (k b : Nat) : (xu_restart σ k).1 k b = if b = 10 then nI 0 else if b = 9 then nI 0 else if b = 6 then nI 0 else if b = 5 then nI 0 else if b = 4 then nI 0 else if b = 7 then nI 0 else if b = 3 then nI 20 else if b = 2 then σ.1 k 1 else σ.1 k b := by simp only [xu_restart, xu_obey_r, xk_up_s]
theorem xu_restart_o {i : Nat} (h : i ≠ k) : (xu_restart σ k).1 i = σ.1 i := by simp only [xu_restart]; rw [xu_obey_o h, xk_up_o h, xk_up_o h, xk_up_o h]
theorem xu_clear_at (h : xc_at σ k x) : xc_at (xu_clear σ k) k (am_pts x, am_til x, am_ord x, am_aim x, am_pat x, []) ∧ xc_own k σ (xu_clear σ k) := by
  obtain ⟨h1, h2, h3, h4, h5, h6, f, h7, h8, h9, h10⟩ := h
  refine ⟨⟨?_, ?_, ?_, ?_, ?_, ?_, 0, ?_, ?_, Nat.le_of_ble_eq_true rfl, fun i hi => absurd hi (Nat.not_lt_zero _)⟩, rfl, fun j hj => xu_clear_o hj, ?_, ?_⟩
  all_goals simp only [xu_clear_r]
  · exact h1
  · exact h2
  · exact h3
  · exact h4
  · exact h5
  · exact h6
  · rfl
  · rfl
  · rfl
  · rfl
theorem xu_obey_at {o a : Nat} (h : xc_at σ k x) : xc_at (xu_obey σ k (nI o) (nI a)) k (am_pts x, am_til x, o, a, 0, []) ∧ xc_own k σ (xu_obey σ k (nI o) (nI a)) := by
  obtain ⟨h1, h2, h3, h4, h5, h6, f, h7, h8, h9, h10⟩ := h
  refine ⟨⟨?_, ?_, ?_, ?_, ?_, ?_, 0, ?_, ?_, Nat.le_of_ble_eq_true rfl, fun i hi => absurd hi (Nat.not_lt_zero _)⟩, rfl, fun j hj => xu_obey_o hj, ?_, ?_⟩
  all_goals simp only [xu_obey_r]
  · exact h1
  · exact h2
  · exact h3
  · rfl
  · rfl
  · rfl
  · rfl
  · rfl
  · rfl
  · rfl
theorem xu_drop_at (h : xc_at σ k x) : xc_at (xu_drop σ k) k (am_drop x) ∧ xc_own k σ (xu_drop σ k) := by
  obtain ⟨h1, h2, h3, h4, h5, h6, f, h7, h8, h9, h10⟩ := h
  refine ⟨⟨?_, ?_, ?_, ?_, ?_, ?_, f, ?_, ?_, h9, fun i hi => ?_⟩, rfl, fun j hj => xu_drop_o hj, ?_, ?_⟩
  all_goals first | (rw [xu_drop_o (show k + 16 ≠ k by omega)]; exact h10 i hi) | simp only [xu_drop_r]
  · exact h1
  · exact h2
  · exact h3
  · rfl
  · rfl
  · exact h6
  · exact h7
  · exact h8
  · rfl
  · rfl
theorem xu_restart_at {t : Nat} (h : σ.1 k 1 = nI t) : xc_at (xu_restart σ k) k (20, t, 0, 0, 0, []) ∧ xc_own k σ (xu_restart σ k) := by
  refine ⟨⟨?_, ?_, ?_, ?_, ?_, ?_, 0, ?_, ?_, Nat.le_of_ble_eq_true rfl, fun i hi => absurd hi (Nat.not_lt_zero _)⟩, rfl, fun j hj => xu_restart_o hj, ?_, ?_⟩
  all_goals simp only [xu_restart_r]
  · rfl
  · exact fun _ => h
  · exact fun e => absurd e (show ¬ (20 : Nat) = 0 by decide)
  · rfl
  · rfl
  · rfl
  · rfl
  · rfl
  · rfl
  · rfl
theorem k_U_step (hk : 17 ≤ k ∧ k < 33) (h : xc_at σ k x) (ho : am_ord x ≤ 2) (ha : am_aim x < 64) (hp0 : 0 < am_pts x) {t : Nat} {r : List Nat} (hp : am_pth x = t :: r) (ht : t < 64) : xk_M (xc G) 1 y_U_step [.ref (xk_wA (xc G) k)] σ (xk_pv (fun τ => xc_at τ k (if am_ord x = 1 ∧ t = am_aim x then (am_pts x, t, 0, 0, 0, r) else (am_pts x, t, am_ord x, am_aim x, 0, r)) ∧ xc_own k σ τ)) := by
  obtain ⟨h1, h2, h3, h4, h5, h6, f, h7, h8, h9, h10⟩ := h
  have hl : (am_pth x).length = r.length + 1 := by rw [hp]; rfl
  have h11 : σ.1 (k + 16) f = nI t := by
    have := h10 0 (by omega)
    simpa [hp] using this
  have hr : ∀ b, (xk_up (xk_up (xk_up σ k 2 (nI t)) k 9 (nI (f + 1))) k 6 (nI 0)).1 k b = if b = 6 then nI 0 else if b = 9 then nI (f + 1) else if b = 2 then nI t else σ.1 k b := by intro b; simp only [xk_up_s]
  have hr0 : ∀ j, j ≠ k → (xk_up (xk_up (xk_up σ k 2 (nI t)) k 9 (nI (f + 1))) k 6 (nI 0)).1 j = σ.1 j := fun j hj => by rw [xk_up_o hj, xk_up_o hj, xk_up_o hj]
  have hat : xc_at (xk_up (xk_up (xk_up σ k 2 (nI t)) k 9 (nI (f + 1))) k 6 (nI 0)) k (am_pts x, t, am_ord x, am_aim x, 0, r) := by
    refine ⟨?_, ?_, ?_, ?_, ?_, ?_, f + 1, ?_, ?_, by show f + 1 + r.length ≤ 64; omega, fun i hi => ?_⟩
    all_goals first | rw [hr0 _ (show k + 16 ≠ k by omega)] | simp only [hr]
    · exact h1
    · exact fun _ => rfl
    · exact fun e => absurd e (show ¬ am_pts x = 0 by omega)
    · exact h4
    · exact h5
    · rfl
    · rfl
    · refine Eq.trans h8 ?_
      congr 1
      show f + (am_pth x).length = f + 1 + r.length
      omega
    · have hi : i < r.length := hi
      have := h10 (i + 1) (by omega)
      rw [show f + (i + 1) = f + 1 + i by omega] at this
      rw [this]
      simp [hp]
  have hown : xc_own k σ (xk_up (xk_up (xk_up σ k 2 (nI t)) k 9 (nI (f + 1))) k 6 (nI 0)) := ⟨rfl, hr0, by rw [hr]; rfl, by rw [hr]; rfl⟩
  refine xk_enter (by decide) (Nat.le_of_ble_eq_true rfl) (fun K hE hc => ?_)
  show xk_X K _ _ 0 [(0, _)] []
  refine x_aload_n hE d_U_step_0 0 rfl ?_
  refine x_aload_n hE d_U_step_1 0 rfl ?_
  refine gf_U_9 hc hk d_U_step_2 ?_
  refine x_aload_n hE d_U_step_5 0 rfl ?_
  refine gf_U_61 hc hk d_U_step_6 h7 ?_
  refine x_iald hc (xc_shR (by omega)) rfl (by omega) (by decide) d_U_step_9 h11 ?_
  refine pf_U_25 hc hk d_U_step_10 ?_
  refine x_aload_n hE d_U_step_13 0 rfl ?_
  refine x_dup hE d_U_step_14 rfl ?_
  refine gf_U_61 hc hk d_U_step_15 (show _ = nI f by rw [xk_up_s, if_neg (by decide)]; exact h7) ?_
  refine x_iconst (nI 1) hE d_U_step_18 (by decide) ?_
  first | refine xn_iadd hE d_U_step_19 ?_ | refine x_iadd hE d_U_step_19 ?_
  refine pf_U_61 hc hk d_U_step_20 ?_
  refine x_aload_n hE d_U_step_23 0 rfl ?_
  refine x_iconst (nI 0) hE d_U_step_24 (by decide) ?_
  refine pf_U_45 hc hk d_U_step_25 ?_
  refine x_aload_n hE d_U_step_28 0 rfl ?_
  refine gf_U_39 hc hk d_U_step_29 (show _ = nI (am_ord x) by rw [hr]; exact h4) ?_
  refine x_iconst (nI 1) hE d_U_step_32 (by decide) ?_
  first | refine xn_icmp_ne hE d_U_step_33 (fun h => ?_) (fun h => ?_) | refine x_icmp_ne hE d_U_step_33 (fun h => ?_) (fun h => ?_)
  · skip
    exact x_ret hc d_U_step_51 (by rw [if_neg (fun z => h z.1)]; exact ⟨hat, hown⟩)
  · skip
    refine x_aload_n hE d_U_step_36 0 rfl ?_
    refine gf_U_25 hc hk d_U_step_37 (show _ = nI t by rw [hr]; rfl) ?_
    refine x_aload_n hE d_U_step_40 0 rfl ?_
    refine gf_U_42 hc hk d_U_step_41 (show _ = nI (am_aim x) by rw [hr]; exact h5) ?_
    first | refine xn_icmp_ne hE d_U_step_44 (fun g => ?_) (fun g => ?_) | refine x_icmp_ne hE d_U_step_44 (fun g => ?_) (fun g => ?_)
    · skip
      exact x_ret hc d_U_step_51 (by rw [if_neg (fun z => g z.2)]; exact ⟨hat, hown⟩)
    · skip
      refine x_aload_n hE d_U_step_47 0 rfl ?_
      refine ca_U_71 hc hk d_U_step_48 (k_U_dropOrder hk) (fun τ hq => ?_)
      obtain rfl := hq
      obtain ⟨e1, e2⟩ := xu_drop_at hat
      exact x_ret hc d_U_step_51 (by rw [if_pos ⟨h, g⟩]; exact ⟨e1, e2.1.trans hown.1, fun j hj => (e2.2.1 j hj).trans (hown.2.1 j hj), e2.2.2.1.trans hown.2.2.1, e2.2.2.2.trans hown.2.2.2⟩)
theorem k_U_suffer (hk : 17 ≤ k ∧ k < 33) (h : xc_at σ k x) (hp : am_pts x ≤ 20) {q : Nat} (hq : q < 2 ^ 30) : xk_M (xc G) 2 y_U_suffer [.ref (xk_wA (xc G) k), .int (nI q)] σ (xk_pv (fun τ => xc_at τ k (am_hurt x q) ∧ xc_own k σ τ ∧ τ.1 k 7 = nI (if 0 < q then 1 else 0))) := by
  have rest : ∀ (K : xk_K) (v : Nat), v = (if 0 < q then 1 else 0) → xk_E K c_U_suffer 2 → xk_H K (xc G) c_U_suffer 2 RU 2 none (xk_pv (fun τ => xc_at τ k (am_hurt x q) ∧ xc_own k σ τ ∧ τ.1 k 7 = nI (if 0 < q then 1 else 0))) → xk_X K (xk_vw (xc G)) σ 10 [(0, .ref (xk_wA (xc G) k)), (1, .int (nI q))] [.int (nI v), .ref (xk_wA (xc G) k)] := by
    intro K v hv hE hc
    obtain ⟨h1, h2, h3, h4, h5, h6, f, h7, h8, h9, h10⟩ := h
    have hr : ∀ b, (xk_up (xk_up σ k 7 (nI v)) k 3 (nI (am_pts x - q))).1 k b = if b = 3 then nI (am_pts x - q) else if b = 7 then nI v else σ.1 k b := by intro b; simp only [xk_up_s]
    have hr0 : ∀ j, j ≠ k → (xk_up (xk_up σ k 7 (nI v)) k 3 (nI (am_pts x - q))).1 j = σ.1 j := fun j hj => by rw [xk_up_o hj, xk_up_o hj]
    refine pf_U_31 hc hk d_U_suffer_10 (by rw [hv]; split; exact Or.inr rfl; exact Or.inl rfl) ?_
    refine x_aload_n hE d_U_suffer_13 0 rfl ?_
    refine x_iconst (nI 0) hE d_U_suffer_14 (by decide) ?_
    refine x_aload_n hE d_U_suffer_15 0 rfl ?_
    refine gf_U_28 hc hk d_U_suffer_16 (show _ = nI (am_pts x) by rw [xk_up_s, if_neg (by decide)]; exact h1) ?_
    refine x_iload_n hE d_U_suffer_19 1 rfl ?_
    refine x_isub hE d_U_suffer_20 ?_
    refine xj_U_51 hc d_U_suffer_21 ?_
    rw [xj_lose (by omega) hq]
    refine pf_U_28 hc hk d_U_suffer_24 ?_
    refine x_aload_n hE d_U_suffer_27 0 rfl ?_
    refine ca_U_57 hc hk d_U_suffer_28 (k_U_isDead hk (a := am_pts x - q) (by rw [hr]; rfl) (by omega)) (fun r τ hq => ?_)
    obtain ⟨rfl, rfl⟩ := hq
    by_cases hd : am_pts x - q = 0
    · rw [if_pos hd]
      first | refine xn_if_eq hE d_U_suffer_31 (fun z => ?_) (fun z => ?_) | refine x_if_eq hE d_U_suffer_31 (fun z => ?_) (fun z => ?_)
      · exact absurd z (by decide)
      · skip
        refine x_aload_n hE d_U_suffer_34 0 rfl ?_
        refine x_iconst (-1) hE d_U_suffer_35 (by decide) ?_
        refine pf_U_25 hc hk d_U_suffer_36 ?_
        refine x_aload_n hE d_U_suffer_39 0 rfl ?_
        refine x_iconst (nI 0) hE d_U_suffer_40 (by decide) ?_
        refine x_iconst (nI 0) hE d_U_suffer_41 (by decide) ?_
        refine ca_U_35 hc hk d_U_suffer_42 (k_U_obey hk) (fun τ hq => ?_)
        obtain rfl := hq
        have hl : am_pts x ≤ q := by omega
        have hr2 : ∀ b, (xu_obey (xk_up (xk_up (xk_up σ k 7 (nI v)) k 3 (nI (am_pts x - q))) k 2 (-1)) k (nI 0) (nI 0)).1 k b = if b = 10 then nI 0 else if b = 9 then nI 0 else if b = 6 then nI 0 else if b = 5 then nI 0 else if b = 4 then nI 0 else if b = 2 then -1 else if b = 3 then nI (am_pts x - q) else if b = 7 then nI v else σ.1 k b := by intro b; simp only [xu_obey_r, xk_up_s]
        refine x_ret hc d_U_suffer_45 ⟨?_, ⟨rfl, fun j hj => ?_, ?_, ?_⟩, ?_⟩
        · unfold am_hurt
          rw [if_pos hl]
          refine ⟨?_, ?_, ?_, ?_, ?_, ?_, 0, ?_, ?_, Nat.le_of_ble_eq_true rfl, fun i hi => absurd hi (Nat.not_lt_zero _)⟩
          all_goals simp only [hr2]
          · show nI (am_pts x - q) = nI 0
            rw [hd]
          · exact fun e => absurd e (Nat.lt_irrefl 0)
          · exact fun _ => rfl
          · rfl
          · rfl
          · rfl
          · rfl
          · rfl
        · rw [xu_obey_o hj, xk_up_o hj, hr0 j hj]
        · rw [hr2]; rfl
        · rw [hr2]; rfl
        · rw [hr2, ← hv]; rfl
    · rw [if_neg hd]
      first | refine xn_if_eq hE d_U_suffer_31 (fun z => ?_) (fun z => ?_) | refine x_if_eq hE d_U_suffer_31 (fun z => ?_) (fun z => ?_)
      · skip
        refine x_ret hc d_U_suffer_45 ⟨?_, ⟨rfl, hr0, ?_, ?_⟩, ?_⟩
        · unfold am_hurt
          rw [if_neg (show ¬ am_pts x ≤ q by omega)]
          refine ⟨?_, ?_, ?_, ?_, ?_, ?_, f, ?_, ?_, h9, fun i hi => ?_⟩
          all_goals first | (rw [hr0 _ (show k + 16 ≠ k by omega)]; exact h10 i hi) | simp only [hr]
          · rfl
          · exact fun _ => h2 (by omega)
          · exact fun e => absurd e hd
          · exact h4
          · exact h5
          · exact h6
          · exact h7
          · exact h8
        · rw [hr]; rfl
        · rw [hr]; rfl
        · rw [hr, ← hv]; rfl
      · exact absurd rfl z
  refine xk_enter (by decide) (Nat.le_of_ble_eq_true rfl) (fun K hE hc => ?_)
  show xk_X K _ _ 0 [(0, _), (1, _)] []
  refine x_aload_n hE d_U_suffer_0 0 rfl ?_
  refine x_iload_n hE d_U_suffer_1 1 rfl ?_
  first | refine xn_if_le hE d_U_suffer_2 (fun hq0 => ?_) (fun hq0 => ?_) | refine x_if_le hE d_U_suffer_2 (fun hq0 => ?_) (fun hq0 => ?_)
  · skip
    refine x_iconst (nI 0) hE d_U_suffer_9 (by decide) ?_
    exact rest K 0 (by rw [if_neg (by omega)]) hE hc
  · skip
    refine x_iconst (nI 1) hE d_U_suffer_5 (by decide) ?_
    refine x_goto hE d_U_suffer_6 ?_
    exact rest K 1 (by rw [if_pos (by omega)]) hE hc
theorem k_U_rest (hk : 17 ≤ k ∧ k < 33) (h : xc_at σ k x) (hp : am_pts x ≤ 20) (ho : am_ord x ≤ 2) {q : Nat} (hq : σ.1 k 7 = nI (if 0 < q then 1 else 0)) : xk_M (xc G) 1 y_U_rest [.ref (xk_wA (xc G) k)] σ (xk_pv (fun τ => xc_at τ k (am_rest x q) ∧ xc_own k σ τ)) := by
  have h0 := h
  obtain ⟨h1, h2, h3, h4, h5, h6, f, h7, h8, h9, h10⟩ := h
  have hno : ¬ (0 < am_pts x ∧ am_ord x = 0 ∧ q = 0 ∧ am_pts x < 20) → (xc_at σ k (am_rest x q) ∧ xc_own k σ σ) := fun z => by
    unfold am_rest
    rw [if_neg z]
    exact ⟨h0, rfl, fun _ _ => rfl, rfl, rfl⟩
  refine xk_enter (by decide) (Nat.le_of_ble_eq_true rfl) (fun K hE hc => ?_)
  show xk_X K _ _ 0 [(0, _)] []
  refine x_aload_n hE d_U_rest_0 0 rfl ?_
  refine ca_U_57 hc hk d_U_rest_1 (k_U_isDead hk h1 (by omega)) (fun r τ hq => ?_)
  obtain ⟨rfl, rfl⟩ := hq
  by_cases hd : am_pts x = 0
  · rw [if_pos hd]
    first | refine xn_if_ne hE d_U_rest_4 (fun z => ?_) (fun z => ?_) | refine x_if_ne hE d_U_rest_4 (fun z => ?_) (fun z => ?_)
    · skip
      exact x_ret hc d_U_rest_40 (hno (by omega))
    · exact absurd z (by decide)
  · rw [if_neg hd]
    first | refine xn_if_ne hE d_U_rest_4 (fun z => ?_) (fun z => ?_) | refine x_if_ne hE d_U_rest_4 (fun z => ?_) (fun z => ?_)
    · exact absurd rfl z
    · skip
      refine x_aload_n hE d_U_rest_7 0 rfl ?_
      refine gf_U_39 hc hk d_U_rest_8 h4 ?_
      first | refine xn_if_ne hE d_U_rest_11 (fun g => ?_) (fun g => ?_) | refine x_if_ne hE d_U_rest_11 (fun g => ?_) (fun g => ?_)
      · skip
        exact x_ret hc d_U_rest_40 (hno (by omega))
      · skip
        refine x_aload_n hE d_U_rest_14 0 rfl ?_
        refine gf_U_31 hc hk d_U_rest_15 hq ?_
        first | refine xn_if_ne hE d_U_rest_18 (fun e => ?_) (fun e => ?_) | refine x_if_ne hE d_U_rest_18 (fun e => ?_) (fun e => ?_)
        · skip
          have : ¬ q = 0 := fun y => e (by rw [y]; rfl)
          exact x_ret hc d_U_rest_40 (hno (by omega))
        · skip
          have hq0 : q = 0 := by
            rcases Nat.eq_zero_or_pos q with y | y
            · exact y
            · rw [if_pos y] at e; exact absurd e (by decide)
          refine x_aload_n hE d_U_rest_21 0 rfl ?_
          refine gf_U_28 hc hk d_U_rest_22 h1 ?_
          refine x_bipush (nI 20) hE d_U_rest_25 (by decide) ?_
          first | refine xn_icmp_ge hE d_U_rest_27 (fun u => ?_) (fun u => ?_) | refine x_icmp_ge hE d_U_rest_27 (fun u => ?_) (fun u => ?_)
          · skip
            exact x_ret hc d_U_rest_40 (hno (by omega))
          · skip
            refine x_aload_n hE d_U_rest_30 0 rfl ?_
            refine x_dup hE d_U_rest_31 rfl ?_
            refine gf_U_28 hc hk d_U_rest_32 h1 ?_
            refine x_iconst (nI 1) hE d_U_rest_35 (by decide) ?_
            first | refine xn_iadd hE d_U_rest_36 ?_ | refine x_iadd hE d_U_rest_36 ?_
            refine pf_U_28 hc hk d_U_rest_37 ?_
            refine x_ret hc d_U_rest_40 ⟨?_, rfl, fun j hj => xk_up_o hj, ?_, ?_⟩
            · unfold am_rest
              rw [if_pos ⟨by omega, g, hq0, u⟩]
              refine ⟨?_, ?_, ?_, ?_, ?_, ?_, f, ?_, ?_, h9, fun i hi => ?_⟩
              all_goals first | (rw [xk_up_o (show k + 16 ≠ k by omega)]; exact h10 i hi) | simp only [xk_up_s]
              · rfl
              · exact fun _ => h2 (by omega)
              · exact fun e => absurd e (Nat.succ_ne_zero _)
              · exact h4
              · exact h5
              · exact h6
              · exact h7
              · exact h8
            · rw [xk_up_s]; rfl
            · rw [xk_up_s]; rfl
end XU2
