/-! GROUND: bits, walls, distance, what lies beside -/
section XTab
variable {S : Type} {K : xk_K} {V : xk_V S} {σ : S} {cc : ByteArray} {nL pc tgt len : Nat} {lv : List (Nat × Value)} {st : List Value} {dflt lo hi off : Int} {offs : Array Int}
theorem x_tabIn (hc : xk_E K cc nL) (hd : decode cc pc = .ok (.tableswitch dflt lo hi offs, len)) {x : Int32} (h1 : ¬ x.toInt < lo) (h2 : ¬ hi < x.toInt) (ho : offs[(x.toInt - lo).toNat]? = some off) (ht : (pc : Int) + off = (tgt : Int)) (k : xk_X K V σ tgt lv st) : xk_X K V σ pc lv (.int x :: st) := by
  obtain ⟨p, l, e, R, s, m, args, below, meth, c, A, cells, slots, Q⟩ := K
  intro H locs ls hP hD hS h
  exact lv_tableIn hc.1 hc.2.1 hd h1 h2 ho ht (k H locs ls hP hD hS h)
theorem x_tabOut (hc : xk_E K cc nL) (hd : decode cc pc = .ok (.tableswitch dflt lo hi offs, len)) {x : Int32} (h1 : x.toInt < lo ∨ hi < x.toInt) (ht : (pc : Int) + dflt = (tgt : Int)) (k : xk_X K V σ tgt lv st) : xk_X K V σ pc lv (.int x :: st) := by
  obtain ⟨p, l, e, R, s, m, args, below, meth, c, A, cells, slots, Q⟩ := K
  intro H locs ls hP hD hS h
  exact lv_tableOut hc.1 hc.2.1 hd h1 ht (k H locs ls hP hD hS h)
end XTab
section XGr
variable {G : xk_D} {σ : xk_St}
/-- the walls, as bits -/
def xc_W (W : Nat → Bool) (σ : xk_St) : Prop := ∀ t, t < 64 → xb_t (σ.2 1 0) t = W t
theorem k_G_bit {t : Int32} : xk_M (xc G) 0 y_G_bit [.int t] σ (xk_pl (fun r τ => r = xb_b t ∧ σ = τ)) := by
  refine xk_enter (by decide) (Nat.le_of_ble_eq_true rfl) (fun K hE hc => ?_)
  show xk_X K _ _ 0 [(0, _)] []
  refine x_lconst 1 hE d_G_bit_0 (by decide) ?_
  refine x_iload_n hE d_G_bit_1 0 rfl ?_
  refine x_lshl hE d_G_bit_2 ?_
  exact x_lret hc d_G_bit_3 (⟨rfl, rfl⟩)
theorem k_G_isWall {W : Nat → Bool} (hW : xc_W W σ) {t : Nat} (ht : t < 64) : xk_M (xc G) 1 y_G_isWall [.ref (xk_wA (xc G) 1), .int (nI t)] σ (xk_pi (fun r τ => r = (if W t = true then nI 1 else nI 0) ∧ σ = τ)) := by
  refine xk_enter (by decide) (Nat.le_of_ble_eq_true rfl) (fun K hE hc => ?_)
  show xk_X K _ _ 0 [(0, _), (1, _)] []
  refine x_aload_n hE d_G_isWall_0 0 rfl ?_
  refine gf_G_21 hc d_G_isWall_1 rfl ?_
  refine x_iload_n hE d_G_isWall_4 1 rfl ?_
  refine ca_G_25 hc d_G_isWall_5 (k_G_bit) (fun r τ hq => ?_)
  obtain ⟨rfl, rfl⟩ := hq
  refine x_land hE d_G_isWall_8 ?_
  refine x_lconst 0 hE d_G_isWall_9 (by decide) ?_
  refine x_lcmp hE d_G_isWall_10 ?_
  refine x_if_eq hE d_G_isWall_11 (fun h => ?_) (fun h => ?_)
  · skip
    refine x_iconst (nI 0) hE d_G_isWall_18 (by decide) ?_
    rw [xb_test ht, hW t ht] at h
    exact x_zret hc d_G_isWall_19 (by first | exact Or.inl rfl | exact Or.inr rfl | assumption | omega) (⟨by rw [h]; rfl, rfl⟩)
  · skip
    refine x_iconst (nI 1) hE d_G_isWall_14 (by decide) ?_
    refine x_goto hE d_G_isWall_15 ?_
    rw [xb_test ht, hW t ht] at h
    have h2 : W t = true := by simpa using h
    exact x_zret hc d_G_isWall_19 (by first | exact Or.inl rfl | exact Or.inr rfl | assumption | omega) (⟨by rw [h2]; rfl, rfl⟩)
theorem k_G_build {W : Nat → Bool} (hW : xc_W W σ) {t : Nat} (ht : t < 64) {b : Int32} : xk_M (xc G) 1 y_G_build [.ref (xk_wA (xc G) 1), .int (nI t), .int b] σ (xk_pv (fun τ => xc_W (am_set W t (decide (b ≠ 0))) τ ∧ τ.1 = σ.1)) := by
  refine xk_enter (by decide) (Nat.le_of_ble_eq_true rfl) (fun K hE hc => ?_)
  show xk_X K _ _ 0 [(0, _), (1, _), (2, _)] []
  refine x_aload_n hE d_G_build_0 0 rfl ?_
  refine x_iload_n hE d_G_build_1 2 rfl ?_
  refine x_if_eq hE d_G_build_2 (fun h => ?_) (fun h => ?_)
  · skip
    refine x_aload_n hE d_G_build_17 0 rfl ?_
    refine gf_G_21 hc d_G_build_18 rfl ?_
    refine x_iload_n hE d_G_build_21 1 rfl ?_
    refine ca_G_25 hc d_G_build_22 (k_G_bit) (fun r τ hq => ?_)
    obtain ⟨rfl, rfl⟩ := hq
    refine xl_G_29 hc d_G_build_25 ?_
    refine x_lxor hE d_G_build_28 ?_
    refine x_land hE d_G_build_29 ?_
    refine pf_G_21 hc d_G_build_30 ?_
    refine x_ret hc d_G_build_33 ⟨fun i hi => ?_, rfl⟩
    have e : (xk_upL σ 1 0 (σ.2 1 0 &&& (xb_b (nI t) ^^^ -1))).2 1 0 = σ.2 1 0 &&& (xb_b (nI t) ^^^ -1) := by simp [xk_upL]
    rw [e, xb_and, xb_not _ hi, xb_bit t ht i hi, hW i hi]
    by_cases hit : i = t
    · subst hit; rw [am_set_s]; simp [h]
    · rw [am_set_n hit]; simp [hit]
  · skip
    refine x_aload_n hE d_G_build_5 0 rfl ?_
    refine gf_G_21 hc d_G_build_6 rfl ?_
    refine x_iload_n hE d_G_build_9 1 rfl ?_
    refine ca_G_25 hc d_G_build_10 (k_G_bit) (fun r τ hq => ?_)
    obtain ⟨rfl, rfl⟩ := hq
    refine x_lor hE d_G_build_13 ?_
    refine x_goto hE d_G_build_14 ?_
    refine pf_G_21 hc d_G_build_30 ?_
    refine x_ret hc d_G_build_33 ⟨fun i hi => ?_, rfl⟩
    have e : (xk_upL σ 1 0 (σ.2 1 0 ||| xb_b (nI t))).2 1 0 = σ.2 1 0 ||| xb_b (nI t) := by simp [xk_upL]
    rw [e, xb_or, xb_bit t ht i hi, hW i hi]
    by_cases hit : i = t
    · subst hit; rw [am_set_s]; simp [h]
    · rw [am_set_n hit]; simp [hit]
theorem k_G_distance {a b : Nat} (ha : a < 64) (hb : b < 64) : xk_M (xc G) 1 y_G_distance [.int (nI a), .int (nI b)] σ (xk_pi (fun r τ => r = nI (am_dist a b) ∧ σ = τ)) := by
  refine xk_enter (by decide) (Nat.le_of_ble_eq_true rfl) (fun K hE hc => ?_)
  show xk_X K _ _ 0 [(0, _), (1, _)] []
  refine x_iload_n hE d_G_distance_0 0 rfl ?_
  refine x_bipush (nI 8) hE d_G_distance_1 (by decide) ?_
  first | refine xn_irem hE d_G_distance_3 ?_ | refine x_irem hE d_G_distance_3 (by decide) ?_
  refine x_iload_n hE d_G_distance_4 1 rfl ?_
  refine x_bipush (nI 8) hE d_G_distance_5 (by decide) ?_
  first | refine xn_irem hE d_G_distance_7 ?_ | refine x_irem hE d_G_distance_7 (by decide) ?_
  refine x_isub hE d_G_distance_8 ?_
  refine xj_G_41 hc d_G_distance_9 ?_
  rw [xj_dif (by omega) (by omega)]
  refine x_iload_n hE d_G_distance_12 0 rfl ?_
  refine x_bipush (nI 8) hE d_G_distance_13 (by decide) ?_
  first | refine xn_idiv hE d_G_distance_15 ?_ | refine x_idiv hE d_G_distance_15 (by decide) ?_
  refine x_iload_n hE d_G_distance_16 1 rfl ?_
  refine x_bipush (nI 8) hE d_G_distance_17 (by decide) ?_
  first | refine xn_idiv hE d_G_distance_19 ?_ | refine x_idiv hE d_G_distance_19 (by decide) ?_
  refine x_isub hE d_G_distance_20 ?_
  refine xj_G_41 hc d_G_distance_21 ?_
  rw [xj_dif (by omega) (by omega)]
  first | refine xn_iadd hE d_G_distance_24 ?_ | refine x_iadd hE d_G_distance_24 ?_
  exact x_iret hc d_G_distance_25 (⟨rfl, rfl⟩)
/-- a tile, or none -/
def xc_o (o : Option Nat) : Int32 := match o with
  | none => -1
  | some t => nI t
theorem k_G_beside {t d : Nat} (ht : t < 64) (hd : d < 4) : xk_M (xc G) 0 y_G_beside [.int (nI t), .int (nI d)] σ (xk_pi (fun r τ => r = xc_o (am_beside t d) ∧ σ = τ)) := by
  refine xk_enter (by decide) (Nat.le_of_ble_eq_true rfl) (fun K hE hc => ?_)
  show xk_X K _ _ 0 [(0, _), (1, _)] []
  refine x_iload_n hE d_G_beside_0 1 rfl ?_
  have hcase : d = 0 ∨ d = 1 ∨ d = 2 ∨ d = 3 := by omega
  rcases hcase with rfl | rfl | rfl | rfl
  · refine x_tabIn hE d_G_beside_1 (x := nI 0) (off := 27) (tgt := 28) (by decide) (by decide) (by decide) (by decide) ?_
    refine x_iload_n hE d_G_beside_28 0 rfl ?_
    refine x_bipush (nI 8) hE d_G_beside_29 (by decide) ?_
    first | refine xn_icmp_lt hE d_G_beside_31 (fun h => ?_) (fun h => ?_) | refine x_icmp_lt hE d_G_beside_31 (fun h => ?_) (fun h => ?_)
    · skip
      refine x_iconst (-1) hE d_G_beside_41 (by decide) ?_
      exact x_iret hc d_G_beside_42 (⟨by simp [am_beside, xc_o, show ¬ 8 ≤ t by omega], rfl⟩)
    · skip
      refine x_iload_n hE d_G_beside_34 0 rfl ?_
      refine x_bipush (nI 8) hE d_G_beside_35 (by decide) ?_
      first | refine xn_isub hE d_G_beside_37 ?_ | refine x_isub hE d_G_beside_37 ?_
      refine x_goto hE d_G_beside_38 ?_
      exact x_iret hc d_G_beside_42 (⟨by simp [am_beside, xc_o, show 8 ≤ t by omega], rfl⟩)
  · refine x_tabIn hE d_G_beside_1 (x := nI 1) (off := 42) (tgt := 43) (by decide) (by decide) (by decide) (by decide) ?_
    refine x_iload_n hE d_G_beside_43 0 rfl ?_
    refine x_bipush (nI 8) hE d_G_beside_44 (by decide) ?_
    first | refine xn_irem hE d_G_beside_46 ?_ | refine x_irem hE d_G_beside_46 (by decide) ?_
    refine x_bipush (nI 7) hE d_G_beside_47 (by decide) ?_
    first | refine xn_icmp_ge hE d_G_beside_49 (fun h => ?_) (fun h => ?_) | refine x_icmp_ge hE d_G_beside_49 (fun h => ?_) (fun h => ?_)
    · skip
      refine x_iconst (-1) hE d_G_beside_58 (by decide) ?_
      exact x_iret hc d_G_beside_59 (⟨by simp [am_beside, xc_o, show ¬ t % 8 < 7 by omega], rfl⟩)
    · skip
      refine x_iload_n hE d_G_beside_52 0 rfl ?_
      refine x_iconst (nI 1) hE d_G_beside_53 (by decide) ?_
      first | refine xn_iadd hE d_G_beside_54 ?_ | refine x_iadd hE d_G_beside_54 ?_
      refine x_goto hE d_G_beside_55 ?_
      exact x_iret hc d_G_beside_59 (⟨by simp [am_beside, xc_o, show t % 8 < 7 by omega], rfl⟩)
  · refine x_tabIn hE d_G_beside_1 (x := nI 2) (off := 59) (tgt := 60) (by decide) (by decide) (by decide) (by decide) ?_
    refine x_iload_n hE d_G_beside_60 0 rfl ?_
    refine x_bipush (nI 56) hE d_G_beside_61 (by decide) ?_
    first | refine xn_icmp_ge hE d_G_beside_63 (fun h => ?_) (fun h => ?_) | refine x_icmp_ge hE d_G_beside_63 (fun h => ?_) (fun h => ?_)
    · skip
      refine x_iconst (-1) hE d_G_beside_73 (by decide) ?_
      exact x_iret hc d_G_beside_74 (⟨by simp [am_beside, xc_o, show ¬ t < 56 by omega], rfl⟩)
    · skip
      refine x_iload_n hE d_G_beside_66 0 rfl ?_
      refine x_bipush (nI 8) hE d_G_beside_67 (by decide) ?_
      first | refine xn_iadd hE d_G_beside_69 ?_ | refine x_iadd hE d_G_beside_69 ?_
      refine x_goto hE d_G_beside_70 ?_
      exact x_iret hc d_G_beside_74 (⟨by simp [am_beside, xc_o, show t < 56 by omega], rfl⟩)
  · refine x_tabOut hE d_G_beside_1 (x := nI 3) (tgt := 75) (Or.inr (by decide)) (by decide) ?_
    refine x_iload_n hE d_G_beside_75 0 rfl ?_
    refine x_bipush (nI 8) hE d_G_beside_76 (by decide) ?_
    first | refine xn_irem hE d_G_beside_78 ?_ | refine x_irem hE d_G_beside_78 (by decide) ?_
    first | refine xn_if_le hE d_G_beside_79 (fun h => ?_) (fun h => ?_) | refine x_if_le hE d_G_beside_79 (fun h => ?_) (fun h => ?_)
    · skip
      refine x_iconst (-1) hE d_G_beside_88 (by decide) ?_
      exact x_iret hc d_G_beside_89 (⟨by simp [am_beside, xc_o, show ¬ 0 < t % 8 by omega], rfl⟩)
    · skip
      refine x_iload_n hE d_G_beside_82 0 rfl ?_
      refine x_iconst (nI 1) hE d_G_beside_83 (by decide) ?_
      first | refine xn_isub hE d_G_beside_84 ?_ | refine x_isub hE d_G_beside_84 ?_
      refine x_goto hE d_G_beside_85 ?_
      exact x_iret hc d_G_beside_89 (⟨by simp [am_beside, xc_o, show 0 < t % 8 by omega], rfl⟩)
end XGr
