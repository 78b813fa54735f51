/-! UNIT: one contract a method -/
theorem xk_up_s (σ : xk_St) (k j b : Nat) (v : Int32) : (xk_up σ k j v).1 k b = if b = j then v else σ.1 k b := by simp [xk_up]
theorem xk_up_o {σ : xk_St} {k j i : Nat} {v : Int32} (h : i ≠ k) : (xk_up σ k j v).1 i = σ.1 i := (xk_up_ne i h).1
theorem xk_up_up {σ : xk_St} {k j : Nat} {a b : Int32} : xk_up (xk_up σ k j a) k j b = xk_up σ k j b := by
  unfold xk_up
  congr 1
  funext x y
  by_cases h : x = k ∧ y = j
  · simp [h]
  · simp [h]
def xu_clear (σ : xk_St) (k : Nat) : xk_St := xk_up (xk_up σ k 9 (nI 0)) k 10 (nI 0)
def xu_obey (σ : xk_St) (k : Nat) (o a : Int32) : xk_St := xu_clear (xk_up (xk_up (xk_up σ k 4 o) k 5 a) k 6 (nI 0)) k
def xu_drop (σ : xk_St) (k : Nat) : xk_St := xk_up (xk_up σ k 4 (nI 0)) k 5 (nI 0)
def xu_restart (σ : xk_St) (k : Nat) : xk_St := xu_obey (xk_up (xk_up (xk_up σ k 2 (σ.1 k 1)) k 3 (nI 20)) k 7 (nI 0)) k (nI 0) (nI 0)
def xu_settle (σ : xk_St) (k : Nat) (s t : Int32) : xk_St := xu_restart (xk_up (xk_up σ k 0 s) k 1 t) k
section XU
variable {G : xk_D} {σ : xk_St} {k : Nat} {x : am_U}
theorem k_U_clearPath (hk : 17 ≤ k ∧ k < 33) : xk_M (xc G) 0 y_U_clearPath [.ref (xk_wA (xc G) k)] σ (xk_pv (fun τ => τ = xu_clear σ k)) := by
  refine xk_enter (by decide) (Nat.le_of_ble_eq_true rfl) (fun K hE hc => ?_)
  show xk_X K _ _ 0 [(0, _)] []
  refine x_aload_n hE d_U_clearPath_0 0 rfl ?_
  refine x_iconst (nI 0) hE d_U_clearPath_1 (by decide) ?_
  refine pf_U_61 hc hk d_U_clearPath_2 ?_
  refine x_aload_n hE d_U_clearPath_5 0 rfl ?_
  refine x_iconst (nI 0) hE d_U_clearPath_6 (by decide) ?_
  refine pf_U_64 hc hk d_U_clearPath_7 ?_
  exact x_ret hc d_U_clearPath_10 (rfl)
theorem k_U_obey (hk : 17 ≤ k ∧ k < 33) {o a : Int32} : xk_M (xc G) 1 y_U_obey [.ref (xk_wA (xc G) k), .int o, .int a] σ (xk_pv (fun τ => τ = xu_obey σ k o a)) := by
  refine xk_enter (by decide) (Nat.le_of_ble_eq_true rfl) (fun K hE hc => ?_)
  show xk_X K _ _ 0 [(0, _), (1, _), (2, _)] []
  refine x_aload_n hE d_U_obey_0 0 rfl ?_
  refine x_iload_n hE d_U_obey_1 1 rfl ?_
  refine pf_U_39 hc hk d_U_obey_2 ?_
  refine x_aload_n hE d_U_obey_5 0 rfl ?_
  refine x_iload_n hE d_U_obey_6 2 rfl ?_
  refine pf_U_42 hc hk d_U_obey_7 ?_
  refine x_aload_n hE d_U_obey_10 0 rfl ?_
  refine x_iconst (nI 0) hE d_U_obey_11 (by decide) ?_
  refine pf_U_45 hc hk d_U_obey_12 ?_
  refine x_aload_n hE d_U_obey_15 0 rfl ?_
  refine ca_U_48 hc hk d_U_obey_16 (k_U_clearPath hk) (fun τ hq => ?_)
  obtain rfl := hq
  exact x_ret hc d_U_obey_19 (rfl)
theorem k_U_dropOrder (hk : 17 ≤ k ∧ k < 33) : xk_M (xc G) 0 y_U_dropOrder [.ref (xk_wA (xc G) k)] σ (xk_pv (fun τ => τ = xu_drop σ k)) := by
  refine xk_enter (by decide) (Nat.le_of_ble_eq_true rfl) (fun K hE hc => ?_)
  show xk_X K _ _ 0 [(0, _)] []
  refine x_aload_n hE d_U_dropOrder_0 0 rfl ?_
  refine x_iconst (nI 0) hE d_U_dropOrder_1 (by decide) ?_
  refine pf_U_39 hc hk d_U_dropOrder_2 ?_
  refine x_aload_n hE d_U_dropOrder_5 0 rfl ?_
  refine x_iconst (nI 0) hE d_U_dropOrder_6 (by decide) ?_
  refine pf_U_42 hc hk d_U_dropOrder_7 ?_
  exact x_ret hc d_U_dropOrder_10 (rfl)
theorem k_U_restart (hk : 17 ≤ k ∧ k < 33) : xk_M (xc G) 2 y_U_restart [.ref (xk_wA (xc G) k)] σ (xk_pv (fun τ => τ = xu_restart σ k)) := by
  refine xk_enter (by decide) (Nat.le_of_ble_eq_true rfl) (fun K hE hc => ?_)
  show xk_X K _ _ 0 [(0, _)] []
  refine x_aload_n hE d_U_restart_0 0 rfl ?_
  refine x_aload_n hE d_U_restart_1 0 rfl ?_
  refine gf_U_19 hc hk d_U_restart_2 rfl ?_
  refine pf_U_25 hc hk d_U_restart_5 ?_
  refine x_aload_n hE d_U_restart_8 0 rfl ?_
  refine x_bipush (nI 20) hE d_U_restart_9 (by decide) ?_
  refine pf_U_28 hc hk d_U_restart_11 ?_
  refine x_aload_n hE d_U_restart_14 0 rfl ?_
  refine x_iconst (nI 0) hE d_U_restart_15 (by decide) ?_
  refine pf_U_31 hc hk d_U_restart_16 (by first | exact Or.inl rfl | exact Or.inr rfl | assumption) ?_
  refine x_aload_n hE d_U_restart_19 0 rfl ?_
  refine x_iconst (nI 0) hE d_U_restart_20 (by decide) ?_
  refine x_iconst (nI 0) hE d_U_restart_21 (by decide) ?_
  refine ca_U_35 hc hk d_U_restart_22 (k_U_obey hk) (fun τ hq => ?_)
  obtain rfl := hq
  exact x_ret hc d_U_restart_25 (rfl)
theorem k_U_settle (hk : 17 ≤ k ∧ k < 33) {s t : Int32} : xk_M (xc G) 3 y_U_settle [.ref (xk_wA (xc G) k), .int s, .int t] σ (xk_pv (fun τ => τ = xu_settle σ k s t)) := by
  refine xk_enter (by decide) (Nat.le_of_ble_eq_true rfl) (fun K hE hc => ?_)
  show xk_X K _ _ 0 [(0, _), (1, _), (2, _)] []
  refine x_aload_n hE d_U_settle_0 0 rfl ?_
  refine x_iload_n hE d_U_settle_1 1 rfl ?_
  refine pf_U_15 hc hk d_U_settle_2 ?_
  refine x_aload_n hE d_U_settle_5 0 rfl ?_
  refine x_iload_n hE d_U_settle_6 2 rfl ?_
  refine pf_U_19 hc hk d_U_settle_7 ?_
  refine x_aload_n hE d_U_settle_10 0 rfl ?_
  refine ca_U_22 hc hk d_U_settle_11 (k_U_restart hk) (fun τ hq => ?_)
  obtain rfl := hq
  exact x_ret hc d_U_settle_14 (rfl)
theorem k_U_isDead (hk : 17 ≤ k ∧ k < 33) {a : Nat} (ha : σ.1 k 3 = nI a) (hb : a < 2 ^ 31) : xk_M (xc G) 0 y_U_isDead [.ref (xk_wA (xc G) k)] σ (xk_pi (fun r τ => r = (if a = 0 then nI 1 else nI 0) ∧ σ = τ)) := by
  refine xk_enter (by decide) (Nat.le_of_ble_eq_true rfl) (fun K hE hc => ?_)
  show xk_X K _ _ 0 [(0, _)] []
  refine x_aload_n hE d_U_isDead_0 0 rfl ?_
  refine gf_U_28 hc hk d_U_isDead_1 ha ?_
  first | refine xn_if_ne hE d_U_isDead_4 (fun h => ?_) (fun h => ?_) | refine x_if_ne hE d_U_isDead_4 (fun h => ?_) (fun h => ?_)
  · skip
    refine x_iconst (nI 0) hE d_U_isDead_11 (by decide) ?_
    exact x_zret hc d_U_isDead_12 (by first | exact Or.inl rfl | exact Or.inr rfl | assumption | omega) (⟨by rw [if_neg h], rfl⟩)
  · skip
    refine x_iconst (nI 1) hE d_U_isDead_7 (by decide) ?_
    refine x_goto hE d_U_isDead_8 ?_
    exact x_zret hc d_U_isDead_12 (by first | exact Or.inl rfl | exact Or.inr rfl | assumption | omega) (⟨by rw [if_pos h], rfl⟩)
theorem k_U_pathLength (hk : 17 ≤ k ∧ k < 33) (h : xc_at σ k x) : xk_M (xc G) 0 y_U_pathLength [.ref (xk_wA (xc G) k)] σ (xk_pi (fun r τ => r = nI (am_pth x).length ∧ σ = τ)) := by
  obtain ⟨h1, h2, h3, h4, h5, h6, f, h7, h8, h9, h10⟩ := h
  refine xk_enter (by decide) (Nat.le_of_ble_eq_true rfl) (fun K hE hc => ?_)
  show xk_X K _ _ 0 [(0, _)] []
  refine x_aload_n hE d_U_pathLength_0 0 rfl ?_
  refine gf_U_64 hc hk d_U_pathLength_1 h8 ?_
  refine x_aload_n hE d_U_pathLength_4 0 rfl ?_
  refine gf_U_61 hc hk d_U_pathLength_5 h7 ?_
  first | refine xn_isub hE d_U_pathLength_8 ?_ | refine x_isub hE d_U_pathLength_8 ?_
  exact x_iret hc d_U_pathLength_9 (⟨by congr 1; omega, rfl⟩)
theorem k_U_pathTile (hk : 17 ≤ k ∧ k < 33) (h : xc_at σ k x) {i : Nat} (hi : i < (am_pth x).length) : xk_M (xc G) 0 y_U_pathTile [.ref (xk_wA (xc G) k), .int (nI i)] σ (xk_pi (fun r τ => r = nI ((am_pth x)[i]) ∧ σ = τ)) := by
  obtain ⟨h1, h2, h3, h4, h5, h6, f, h7, h8, h9, h10⟩ := h
  refine xk_enter (by decide) (Nat.le_of_ble_eq_true rfl) (fun K hE hc => ?_)
  show xk_X K _ _ 0 [(0, _), (1, _)] []
  refine x_aload_n hE d_U_pathTile_0 0 rfl ?_
  refine gf_U_9 hc hk d_U_pathTile_1 ?_
  refine x_aload_n hE d_U_pathTile_4 0 rfl ?_
  refine gf_U_61 hc hk d_U_pathTile_5 h7 ?_
  refine x_iload_n hE d_U_pathTile_8 1 rfl ?_
  first | refine xn_iadd hE d_U_pathTile_9 ?_ | refine x_iadd hE d_U_pathTile_9 ?_
  refine x_iald hc (xc_shR (by omega)) rfl (by omega) (by decide) d_U_pathTile_10 (h10 i hi) ?_
  exact x_iret hc d_U_pathTile_11 (⟨rfl, rfl⟩)
theorem k_U_isPathTo (hk : 17 ≤ k ∧ k < 33) (h : xc_at σ k x) (hx : ∀ t ∈ am_pth x, t < 64) {g : Nat} (hg : g < 64) : xk_M (xc G) 1 y_U_isPathTo [.ref (xk_wA (xc G) k), .int (nI g)] σ (xk_pi (fun r τ => r = (if (am_pth x).getLast? = some g then nI 1 else nI 0) ∧ σ = τ)) := by
  have h0 := h
  obtain ⟨h1, h2, h3, h4, h5, h6, f, h7, h8, h9, h10⟩ := h
  refine xk_enter (by decide) (Nat.le_of_ble_eq_true rfl) (fun K hE hc => ?_)
  show xk_X K _ _ 0 [(0, _), (1, _)] []
  refine x_aload_n hE d_U_isPathTo_0 0 rfl ?_
  refine ca_U_67 hc hk d_U_isPathTo_1 (k_U_pathLength hk h0) (fun r τ hq => ?_)
  obtain ⟨rfl, rfl⟩ := hq
  first | refine xn_if_le hE d_U_isPathTo_4 (fun hl => ?_) (fun hl => ?_) | refine x_if_le hE d_U_isPathTo_4 (fun hl => ?_) (fun hl => ?_)
  · skip
    refine x_iconst (nI 0) hE d_U_isPathTo_26 (by decide) ?_
    have e : am_pth x = [] := List.length_eq_zero_iff.mp hl
    exact x_zret hc d_U_isPathTo_27 (by first | exact Or.inl rfl | exact Or.inr rfl | assumption | omega) (⟨by rw [e]; rfl, rfl⟩)
  · skip
    have hlast : (am_pth x).getLast? = some ((am_pth x)[(am_pth x).length - 1]) := by
      rw [List.getLast?_eq_getElem?, List.getElem?_eq_getElem]
    have h11 := h10 ((am_pth x).length - 1) (by omega)
    rw [show f + ((am_pth x).length - 1) = f + (am_pth x).length - 1 by omega] at h11
    have h12 : (am_pth x)[(am_pth x).length - 1] < 64 := hx _ (List.getElem_mem _)
    refine x_aload_n hE d_U_isPathTo_7 0 rfl ?_
    refine gf_U_9 hc hk d_U_isPathTo_8 ?_
    refine x_aload_n hE d_U_isPathTo_11 0 rfl ?_
    refine gf_U_64 hc hk d_U_isPathTo_12 h8 ?_
    refine x_iconst (nI 1) hE d_U_isPathTo_15 (by decide) ?_
    first | refine xn_isub hE d_U_isPathTo_16 ?_ | refine x_isub hE d_U_isPathTo_16 ?_
    refine x_iald hc (xc_shR (by omega)) rfl (by omega) (by decide) d_U_isPathTo_17 h11 ?_
    refine x_iload_n hE d_U_isPathTo_18 1 rfl ?_
    first | refine xn_icmp_ne hE d_U_isPathTo_19 (fun h => ?_) (fun h => ?_) | refine x_icmp_ne hE d_U_isPathTo_19 (fun h => ?_) (fun h => ?_)
    · skip
      refine x_iconst (nI 0) hE d_U_isPathTo_26 (by decide) ?_
      exact x_zret hc d_U_isPathTo_27 (by first | exact Or.inl rfl | exact Or.inr rfl | assumption | omega) (⟨by rw [hlast, if_neg (fun z => h (Option.some.inj z))], rfl⟩)
    · skip
      refine x_iconst (nI 1) hE d_U_isPathTo_22 (by decide) ?_
      refine x_goto hE d_U_isPathTo_23 ?_
      exact x_zret hc d_U_isPathTo_27 (by first | exact Or.inl rfl | exact Or.inr rfl | assumption | omega) (⟨by rw [hlast, if_pos (by rw [h])], rfl⟩)
theorem k_U_runsOutOfPatience (hk : 17 ≤ k ∧ k < 33) {a : Nat} (ha : σ.1 k 6 = nI a) (hb : a < 3) : xk_M (xc G) 0 y_U_runsOutOfPatience [.ref (xk_wA (xc G) k)] σ (xk_pi (fun r τ => r = (if a + 1 < 3 then nI 0 else nI 1) ∧ τ = xk_up σ k 6 (nI (if a + 1 < 3 then a + 1 else 0)))) := by
  refine xk_enter (by decide) (Nat.le_of_ble_eq_true rfl) (fun K hE hc => ?_)
  show xk_X K _ _ 0 [(0, _)] []
  refine x_aload_n hE d_U_runsOutOfPatience_0 0 rfl ?_
  refine x_dup hE d_U_runsOutOfPatience_1 rfl ?_
  refine gf_U_45 hc hk d_U_runsOutOfPatience_2 ha ?_
  refine x_iconst (nI 1) hE d_U_runsOutOfPatience_5 (by decide) ?_
  first | refine xn_iadd hE d_U_runsOutOfPatience_6 ?_ | refine x_iadd hE d_U_runsOutOfPatience_6 ?_
  refine pf_U_45 hc hk d_U_runsOutOfPatience_7 ?_
  refine x_aload_n hE d_U_runsOutOfPatience_10 0 rfl ?_
  refine gf_U_45 hc hk d_U_runsOutOfPatience_11 (by rw [xk_up_s, if_pos rfl]) ?_
  refine x_iconst (nI 3) hE d_U_runsOutOfPatience_14 (by decide) ?_
  first | refine xn_icmp_ge hE d_U_runsOutOfPatience_15 (fun h => ?_) (fun h => ?_) | refine x_icmp_ge hE d_U_runsOutOfPatience_15 (fun h => ?_) (fun h => ?_)
  · skip
    refine x_aload_n hE d_U_runsOutOfPatience_20 0 rfl ?_
    refine x_iconst (nI 0) hE d_U_runsOutOfPatience_21 (by decide) ?_
    refine pf_U_45 hc hk d_U_runsOutOfPatience_22 ?_
    refine x_iconst (nI 1) hE d_U_runsOutOfPatience_25 (by decide) ?_
    exact x_zret hc d_U_runsOutOfPatience_26 (by first | exact Or.inl rfl | exact Or.inr rfl | assumption | omega) (⟨by rw [if_neg (by omega)], by rw [if_neg (by omega), xk_up_up]⟩)
  · skip
    refine x_iconst (nI 0) hE d_U_runsOutOfPatience_18 (by decide) ?_
    exact x_zret hc d_U_runsOutOfPatience_19 (by first | exact Or.inl rfl | exact Or.inr rfl | assumption | omega) (⟨by rw [if_pos (by omega)], by rw [if_pos (by omega)]⟩)
end XU
