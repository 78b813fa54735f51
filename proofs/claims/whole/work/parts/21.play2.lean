/-! PLAY: paths, moves, orders -/
section XP2
variable {G : xk_D} {σ : xk_St} {p n u : Nat} {P : am_P} {W : Nat → Bool}
/-- the path that was found, or, where none was, the one that was there -/
def am_take (x : am_U) (l : List Nat) : am_U := match l with
  | [] => x
  | q :: z => (am_pts x, am_til x, am_ord x, am_aim x, am_pat x, q :: z)
theorem am_take_pt (x : am_U) (l : List Nat) : am_pts (am_take x l) = am_pts x ∧ am_til (am_take x l) = am_til x := by
  cases l <;> exact ⟨rfl, rfl⟩
theorem xc_W.mv {σ τ : xk_St} (h : xc_W W σ) (e : τ.2 = σ.2) : xc_W W τ := fun t ht => by rw [e]; exact h t ht
theorem k_P_findPath (hp : p < 2) (hu : u < 8) {x : am_U} (hat : xc_at σ (17 + 8 * p + u) x) (ha : 0 < am_pts x) (ht : am_til x < 64) {g : Nat} (hg : g < 64) (hW : xc_W W σ) {av : Int64} {Av : Nat → Bool} (hA : ∀ t, t < 64 → xb_t av t = Av t) : xk_M (xc G) 2 y_P_findPath [.ref (xk_wA (xc G) (10 + 3 * p)), .ref (xk_wA (xc G) (17 + 8 * p + u)), .int (nI g), .long av] σ (xk_pv (fun τ => xc_at τ (17 + 8 * p + u) (am_take x (am_find (am_free W Av g) (am_til x) g)) ∧ xc_one p u σ τ)) := by
  have hinv := am_inv_end (free := am_free W Av g) (b := g) ht
  have hmet := am_inv_met hinv
  refine xk_enter (by decide) (Nat.le_of_ble_eq_true rfl) (fun K hE hc => ?_)
  show xk_X K _ _ 0 [(0, _), (1, _), (2, _), (3, _)] []
  refine x_aload_n hE d_P_findPath_0 0 rfl ?_
  refine gf_P_21 hc hp d_P_findPath_1 ?_
  refine x_aload_n hE d_P_findPath_4 1 rfl ?_
  refine gf_P_75 hc (by omega) d_P_findPath_5 (hat.2.1 ha) ?_
  refine x_iload_n hE d_P_findPath_8 2 rfl ?_
  refine x_lload_n hE d_P_findPath_9 3 rfl ?_
  refine ca_P_143 hc d_P_findPath_10 (k_G_search hW hA ht hg) (fun r τ hq => ?_)
  obtain ⟨rfl, hR, hF⟩ := hq
  have hat2 : xc_at τ (17 + 8 * p + u) x := by
    unfold xc_at at hat ⊢
    rw [hF.2 _ (by omega) (by omega) (by omega), hF.2 _ (by omega) (by omega) (by omega)]
    exact hat
  have hone : xc_one p u σ τ := ⟨hF.1, fun k hk => hF.2 k (by omega) (by omega) (by omega), by rw [hF.2 _ (by omega) (by omega) (by omega)], by rw [hF.2 _ (by omega) (by omega) (by omega)]⟩
  refine x_istore [(5, _), (0, _), (1, _), (2, _), (3, _)] hE d_P_findPath_13 (by decide) rfl ?_
  refine x_iload hE d_P_findPath_15 0 rfl ?_
  cases hfr : (am_end (am_free W Av g) (am_til x) g).2.2.1 g with
  | none =>
    have e : am_find (am_free W Av g) (am_til x) g = [] := by unfold am_find; rw [if_pos hfr]
    rw [xc_dp_n hfr]
    refine x_if_le hE d_P_findPath_17 (fun z => ?_) (fun z => ?_)
    · skip
      exact x_ret hc d_P_findPath_43 (by rw [e]; exact ⟨hat2, hone⟩)
    · exact absurd (by decide) z
  | some y =>
    have hne : (am_end (am_free W Av g) (am_til x) g).2.2.1 g ≠ none := by rw [hfr]; simp
    have hdp := (hinv.2.2.2 g y hfr).2.2.2.1
    have e : am_find (am_free W Av g) (am_til x) g = am_chain (am_end (am_free W Av g) (am_til x) g).2.2.1 ((am_end (am_free W Av g) (am_til x) g).2.2.2 g) g := by unfold am_find; rw [if_neg hne]
    rw [xc_dp_s hne]
    first | refine xn_if_le hE d_P_findPath_17 (fun z => ?_) (fun z => ?_) | refine x_if_le hE d_P_findPath_17 (fun z => ?_) (fun z => ?_)
    · skip
      exact x_ret hc d_P_findPath_43 (by rw [e, z]; exact ⟨hat2, hone⟩)
    · skip
      refine x_aload_n hE d_P_findPath_20 1 rfl ?_
      refine gf_P_21 hc hp d_P_findPath_21 ?_
      refine x_iload_n hE d_P_findPath_24 3 rfl ?_
      refine x_aload_n hE d_P_findPath_25 2 rfl ?_
      refine gf_P_147 hc (by omega) d_P_findPath_26 ?_
      refine ca_P_150 hc d_P_findPath_29 (k_G_layPath hinv hR hg hne (show 33 ≤ 17 + 8 * p + u + 16 by omega) (xc_shR (by omega))) (fun τ hq => ?_)
      obtain ⟨q1, q2, q3⟩ := hq
      refine x_aload_n hE d_P_findPath_32 2 rfl ?_
      refine x_iconst (nI 0) hE d_P_findPath_33 (by decide) ?_
      refine pf_P_154 hc (by omega) d_P_findPath_34 ?_
      refine x_aload_n hE d_P_findPath_37 2 rfl ?_
      refine x_iload hE d_P_findPath_38 0 rfl ?_
      refine pf_P_157 hc (by omega) d_P_findPath_40 ?_
      have hl : (am_find (am_free W Av g) (am_til x) g).length = (am_end (am_free W Av g) (am_til x) g).2.2.2 g := by rw [e, am_chain_len]
      have htk : am_take x (am_find (am_free W Av g) (am_til x) g) = (am_pts x, am_til x, am_ord x, am_aim x, am_pat x, am_find (am_free W Av g) (am_til x) g) := by
        cases hz : am_find (am_free W Av g) (am_til x) g with
        | nil => rw [hz] at hl; simp at hl; omega
        | cons a b => rfl
      obtain ⟨h1, h2, h3, h4, h5, h6, -⟩ := hat2
      refine x_ret hc d_P_findPath_43 ⟨?_, ?_⟩
      · rw [htk]
        refine ⟨?_, ?_, ?_, ?_, ?_, ?_, 0, ?_, ?_, ?_, fun i hi => ?_⟩
        · simp (disch := omega) only [xk_up_s, xk_up_o]; rw [q2 _ (by omega)]; exact h1
        · simp (disch := omega) only [xk_up_s, xk_up_o]; rw [q2 _ (by omega)]; exact h2
        · simp (disch := omega) only [xk_up_s, xk_up_o]; rw [q2 _ (by omega)]; exact h3
        · simp (disch := omega) only [xk_up_s, xk_up_o]; rw [q2 _ (by omega)]; exact h4
        · simp (disch := omega) only [xk_up_s, xk_up_o]; rw [q2 _ (by omega)]; exact h5
        · simp (disch := omega) only [xk_up_s, xk_up_o]; rw [q2 _ (by omega)]; exact h6
        · simp (disch := omega) only [xk_up_s, xk_up_o]; rfl
        · simp (disch := omega) only [xk_up_s, xk_up_o]
          show nI _ = nI (0 + (am_find (am_free W Av g) (am_til x) g).length)
          rw [hl, Nat.zero_add]
        · show 0 + (am_find (am_free W Av g) (am_til x) g).length ≤ 64
          omega
        · have hi : i < (am_find (am_free W Av g) (am_til x) g).length := hi
          rw [xk_up_o (by omega), xk_up_o (by omega), Nat.zero_add, q3 i (by rw [← e]; exact hi)]
          congr 1
          simp only [e]
      · refine hone.tr ⟨q1, fun k hk => ?_, ?_, ?_⟩
        · rw [xk_up_o (by omega), xk_up_o (by omega)]; exact q2 k (by omega)
        · rw [xk_up_s, xk_up_s, q2 _ (by omega)]; rfl
        · rw [xk_up_s, xk_up_s, q2 _ (by omega)]; rfl
theorem am_take_pth (x : am_U) (l : List Nat) (h : am_pth x = []) : am_take x l = (am_pts x, am_til x, am_ord x, am_aim x, am_pat x, l) := by
  obtain ⟨a, b, c, d, e, f⟩ := x
  have h : f = [] := h
  subst h
  cases l <;> rfl
theorem k_P_walk (hp : p < 2) (hn : n ≤ 8) (hu : u < n) (hpl : xc_pl p n P σ) (hok : am_okP n P) (ha : 0 < am_pts (P u)) {g : Nat} (hg : g < 64) (hgo : am_ord (P u) = 1 → g = am_aim (P u)) (hW : xc_W W σ) : xk_M (xc G) 3 y_P_walk [.ref (xk_wA (xc G) (10 + 3 * p)), .ref (xk_wA (xc G) (17 + 8 * p + u)), .int (nI g)] σ (xk_pv (fun τ => xc_at τ (17 + 8 * p + u) (am_walk W n P (P u) g) ∧ xc_one p u σ τ)) := by
  have hat := hpl.2 u hu
  have hx := hok u hu
  have hk : 17 ≤ 17 + 8 * p + u ∧ 17 + 8 * p + u < 33 := by omega
  have rest : ∀ (K : xk_K) (x : am_U) (τ : xk_St), xk_E K c_P_walk 3 → xk_H K (xc G) c_P_walk 3 RP 3 none (xk_pv (fun τ => xc_at τ (17 + 8 * p + u) (am_walk W n P (P u) g) ∧ xc_one p u σ τ)) → xc_at τ (17 + 8 * p + u) x → xc_one p u σ τ → am_pts x = am_pts (P u) → am_til x = am_til (P u) → am_ord x = am_ord (P u) → am_aim x = am_aim (P u) → am_ok n x → am_walk W n P (P u) g = am_step W n P x g →
      xk_X K (xk_vw (xc G)) τ 19 [(0, .ref (xk_wA (xc G) (10 + 3 * p))), (1, .ref (xk_wA (xc G) (17 + 8 * p + u))), (2, .int (nI g))] [] := by
    intro K x τ hE hc hatx hone e1 e2 e3 e4 hxo hwk
    have hpl2 := hpl.set hp hn (show u < 8 by omega) hatx hone
    have hok2 : am_okP n (am_set P u x) := am_okP_set hok hxo
    have htk : ∀ t, am_taken (am_set P u x) t n = am_taken P t n := fun t => am_taken_set e1 e2
    refine x_aload_n hE d_P_walk_19 1 rfl ?_
    refine ca_P_127 hc (by omega) d_P_walk_20 (k_U_pathLength hk hatx) (fun r τ hq => ?_)
    obtain ⟨rfl, rfl⟩ := hq
    have hlen := hxo.2.2.2.2.2.2.1
    cases hpth : am_pth x with
    | nil =>
      first | refine xn_if_ne hE d_P_walk_23 (fun z => ?_) (fun z => ?_) | refine x_if_ne hE d_P_walk_23 (fun z => ?_) (fun z => ?_)
      · exact absurd rfl z
      · skip
        refine x_aload_n hE d_P_walk_26 1 rfl ?_
        refine ca_P_99 hc (by omega) d_P_walk_27 (k_U_dropOrder hk) (fun τ hq => ?_)
        obtain rfl := hq
        refine x_goto hE d_P_walk_30 ?_
        obtain ⟨f1, f2⟩ := xu_drop_at hatx
        refine x_ret hc d_P_walk_69 ⟨?_, hone.tr f2.one⟩
        rw [hwk]
        unfold am_step
        rw [hpth]
        exact f1
    | cons t tl =>
      have ht : t < 64 := hxo.2.2.2.2.2.2.2.1 t (by rw [hpth]; exact List.mem_cons_self)
      have hl1 : (t :: tl).length ≤ 64 := by rw [← hpth]; exact hlen
      first | refine xn_if_ne hE d_P_walk_23 (fun z => ?_) (fun z => ?_) | refine x_if_ne hE d_P_walk_23 (fun z => ?_) (fun z => ?_)
      · skip
        refine x_aload_n hE d_P_walk_33 0 rfl ?_
        refine x_aload_n hE d_P_walk_34 1 rfl ?_
        refine x_iconst (nI 0) hE d_P_walk_35 (by decide) ?_
        have h0 : 0 < (am_pth x).length := by rw [hpth]; simp
        refine ca_P_130 hc (by omega) d_P_walk_36 (k_U_pathTile hk hatx (i := 0) h0) (fun r τ hq => ?_)
        obtain ⟨hr0, rfl⟩ := hq
        have hr1 : r = nI t := by rw [hr0]; congr 1; simp [hpth]
        subst hr1
        refine ca_P_134 hc hp d_P_walk_39 (k_P_isTaken hp hn hpl2 hok2 ht) (fun r τ hq => ?_)
        obtain ⟨rfl, rfl⟩ := hq
        rw [htk]
        cases htak : am_taken P t n with
        | false =>
          first | refine xn_if_ne hE d_P_walk_42 (fun y => ?_) (fun y => ?_) | refine x_if_ne hE d_P_walk_42 (fun y => ?_) (fun y => ?_)
          · exact absurd rfl y
          · skip
            refine x_aload_n hE d_P_walk_45 1 rfl ?_
            refine ca_P_137 hc (by omega) d_P_walk_46 (k_U_step hk hatx hxo.2.2.1 hxo.2.2.2.1 (by omega) hpth ht) (fun τ hq => ?_)
            obtain ⟨s1, s2⟩ := hq
            refine x_goto hE d_P_walk_49 ?_
            refine x_ret hc d_P_walk_69 ⟨?_, hone.tr s2.one⟩
            rw [hwk]
            unfold am_step
            rw [hpth]
            simp only [htak]
            rw [if_pos trivial]
            have hiff : (am_ord x = 1 ∧ t = g) ↔ (am_ord x = 1 ∧ t = am_aim x) := by
              constructor
              · intro q; exact ⟨q.1, by rw [e4, ← hgo (by rw [← e3]; exact q.1)]; exact q.2⟩
              · intro q; exact ⟨q.1, by rw [hgo (by rw [← e3]; exact q.1), ← e4]; exact q.2⟩
            by_cases hq : am_ord x = 1 ∧ t = am_aim x
            · rw [if_pos hq] at s1
              rw [if_pos (hiff.mpr hq)]
              exact s1
            · rw [if_neg hq] at s1
              rw [if_neg (fun w => hq (hiff.mp w))]
              exact s1
        | true =>
          first | refine xn_if_ne hE d_P_walk_42 (fun y => ?_) (fun y => ?_) | refine x_if_ne hE d_P_walk_42 (fun y => ?_) (fun y => ?_)
          · skip
            refine x_aload_n hE d_P_walk_52 1 rfl ?_
            refine ca_P_140 hc (by omega) d_P_walk_53 (k_U_runsOutOfPatience hk hatx.2.2.2.2.2.1 hxo.2.2.2.2.2.1) (fun r τ hq => ?_)
            obtain ⟨rfl, rfl⟩ := hq
            obtain ⟨h1, h2, h3, h4, h5, h6, f, h7, h8, h9, h10⟩ := hatx
            have hup : ∀ v : Nat, xc_at (xk_up τ (17 + 8 * p + u) 6 (nI v)) (17 + 8 * p + u) (am_pts x, am_til x, am_ord x, am_aim x, v, am_pth x) ∧ xc_own (17 + 8 * p + u) τ (xk_up τ (17 + 8 * p + u) 6 (nI v)) := by
              intro v
              refine ⟨⟨?_, ?_, ?_, ?_, ?_, ?_, f, ?_, ?_, h9, fun i hi => ?_⟩, rfl, fun j hj => xk_up_o hj, by rw [xk_up_s]; rfl, by rw [xk_up_s]; rfl⟩
              all_goals first | (rw [xk_up_o (show 17 + 8 * p + u + 16 ≠ 17 + 8 * p + u by omega)]; exact h10 i hi) | simp only [xk_up_s]
              · exact h1
              · exact h2
              · exact h3
              · exact h4
              · exact h5
              · rfl
              · exact h7
              · exact h8
            by_cases hpat : am_pat x + 1 < 3
            · rw [if_pos hpat, if_pos hpat]
              first | refine xn_if_eq hE d_P_walk_56 (fun w => ?_) (fun w => ?_) | refine x_if_eq hE d_P_walk_56 (fun w => ?_) (fun w => ?_)
              · skip
                refine x_ret hc d_P_walk_69 ⟨?_, hone.tr (hup _).2.one⟩
                rw [hwk]
                unfold am_step
                rw [hpth]
                simp only [htak]
                rw [if_neg (by simp), if_pos hpat, ← hpth]
                exact (hup _).1
              · exact absurd rfl w
            · rw [if_neg hpat, if_neg hpat]
              first | refine xn_if_eq hE d_P_walk_56 (fun w => ?_) (fun w => ?_) | refine x_if_eq hE d_P_walk_56 (fun w => ?_) (fun w => ?_)
              · exact absurd w (by decide)
              · skip
                refine x_aload_n hE d_P_walk_59 0 rfl ?_
                refine x_aload_n hE d_P_walk_60 1 rfl ?_
                refine x_iload_n hE d_P_walk_61 2 rfl ?_
                refine x_aload_n hE d_P_walk_62 0 rfl ?_
                have hat3 := (hup 0).1
                have hone3 : xc_one p u σ (xk_up τ (17 + 8 * p + u) 6 (nI 0)) := hone.tr (hup 0).2.one
                have hx3 : am_ok n (am_pts x, am_til x, am_ord x, am_aim x, 0, am_pth x) := ⟨hxo.1, hxo.2.1, hxo.2.2.1, hxo.2.2.2.1, hxo.2.2.2.2.1, (by decide : 0 < 3), hxo.2.2.2.2.2.2.1, hxo.2.2.2.2.2.2.2.1, fun e => absurd e (show ¬ am_pts x = 0 by omega)⟩
                have hpl3 := hpl.set hp hn (show u < 8 by omega) hat3 hone3
                have hok3 := am_okP_set (u := u) hok hx3
                refine ca_P_44 hc hp d_P_walk_63 (k_P_takenTiles hp hn hpl3 hok3) (fun r τ hq => ?_)
                obtain ⟨hT, rfl⟩ := hq
                have hT2 : ∀ t, t < 64 → xb_t r t = am_taken P t n := fun t ht => by rw [hT t ht]; exact am_taken_set e1 e2
                refine ca_P_123 hc hp d_P_walk_66 (k_P_findPath hp (show u < 8 by omega) hat3 (show 0 < am_pts x by omega) hxo.2.1 hg (hW.mv hone3.1) hT2) (fun τ hq => ?_)
                obtain ⟨v1, v2⟩ := hq
                refine x_ret hc d_P_walk_69 ⟨?_, hone3.tr v2⟩
                rw [hwk]
                unfold am_step
                rw [hpth]
                simp only [htak]
                rw [if_neg (by simp), if_neg hpat]
                revert v1
                show xc_at _ _ (am_take _ (am_find (am_free W (fun t => am_taken P t n) g) (am_til x) g)) → _
                cases am_find (am_free W (fun t => am_taken P t n) g) (am_til x) g with
                | nil => intro v1; rw [← hpth]; exact v1
                | cons q z => intro v1; exact v1
          · exact absurd y (by decide)
      · exact absurd z (by simp)
  refine xk_enter (by decide) (Nat.le_of_ble_eq_true rfl) (fun K hE hc => ?_)
  show xk_X K _ _ 0 [(0, _), (1, _), (2, _)] []
  refine x_aload_n hE d_P_walk_0 1 rfl ?_
  refine x_iload_n hE d_P_walk_1 2 rfl ?_
  refine ca_P_120 hc (by omega) d_P_walk_2 (k_U_isPathTo hk hat hx.2.2.2.2.2.2.2.1 hg) (fun r τ hq => ?_)
  obtain ⟨rfl, rfl⟩ := hq
  by_cases hl : (am_pth (P u)).getLast? = some g
  · rw [if_pos hl]
    first | refine xn_if_ne hE d_P_walk_5 (fun z => ?_) (fun z => ?_) | refine x_if_ne hE d_P_walk_5 (fun z => ?_) (fun z => ?_)
    · exact rest K (P u) σ hE hc hat xc_one.rf rfl rfl rfl rfl hx (by unfold am_walk; rw [if_pos hl])
    · exact absurd z (by decide)
  · rw [if_neg hl]
    first | refine xn_if_ne hE d_P_walk_5 (fun z => ?_) (fun z => ?_) | refine x_if_ne hE d_P_walk_5 (fun z => ?_) (fun z => ?_)
    · exact absurd rfl z
    · skip
      refine x_aload_n hE d_P_walk_8 1 rfl ?_
      refine ca_P_106 hc (by omega) d_P_walk_9 (k_U_clearPath hk) (fun τ hq => ?_)
      obtain rfl := hq
      obtain ⟨f1, f2⟩ := xu_clear_at hat
      refine x_aload_n hE d_P_walk_12 0 rfl ?_
      refine x_aload_n hE d_P_walk_13 1 rfl ?_
      refine x_iload_n hE d_P_walk_14 2 rfl ?_
      refine x_lconst 0 hE d_P_walk_15 (by decide) ?_
      have h00 : ∀ t, t < 64 → xb_t 0 t = (fun _ => false : Nat → Bool) t := fun t _ => xb_zero t
      refine ca_P_123 hc hp d_P_walk_16 (k_P_findPath hp (show u < 8 by omega) f1 ha hx.2.1 hg (hW.mv f2.1) h00) (fun τ hq => ?_)
      obtain ⟨v1, v2⟩ := hq
      have hf := am_find_ok (free := am_free W (fun _ => false) g) (b := g) hx.2.1
      rw [am_take_pth _ _ rfl] at v1
      exact rest K _ _ hE hc v1 (f2.one.tr v2) rfl rfl rfl rfl ⟨hx.1, hx.2.1, hx.2.2.1, hx.2.2.2.1, hx.2.2.2.2.1, hx.2.2.2.2.2.1, Nat.le_of_lt hf.1, hf.2, fun e => absurd e (show ¬ am_pts (P u) = 0 by omega)⟩ (by unfold am_walk; rw [if_neg hl])
end XP2
