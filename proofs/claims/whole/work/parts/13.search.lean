/-! GROUND: the search, and the way that it found -/
theorem nI_m1 {t : Nat} (h : t < 2 ^ 31) : ¬ nI t = -1 := by
  intro q
  have h1 := nI_toInt h
  rw [q] at h1
  have h2 : (-1 : Int32).toInt = -1 := by decide
  omega
def xc_dp (s : am_B) (t : Nat) : Int32 := if s.2.2.1 t = none then -1 else nI (s.2.2.2 t)
theorem xc_dp_n {s : am_B} {t : Nat} (h : s.2.2.1 t = none) : xc_dp s t = -1 := by unfold xc_dp; rw [if_pos h]
theorem xc_dp_s {s : am_B} {t : Nat} (h : s.2.2.1 t ≠ none) : xc_dp s t = nI (s.2.2.2 t) := by unfold xc_dp; rw [if_neg h]
/-- the rows of the search hold what the model's search holds -/
def xs_R (a : Nat) (s : am_B) (τ : xk_St) : Prop := (∀ t, t < 64 → τ.1 4 t = xc_dp s t) ∧ ∀ t x, t ≠ a → s.2.2.1 t = some x → τ.1 3 t = nI x
def xs_F (σ τ : xk_St) : Prop := τ.2 = σ.2 ∧ ∀ k, k ≠ 2 → k ≠ 3 → k ≠ 4 → τ.1 k = σ.1 k
def xs_I (a : Nat) (free : Nat → Bool) (σ : xk_St) (s : am_B) (τ : xk_St) (cl : Int64) : Prop := am_inv a s ∧ (∀ t, t < 64 → xb_t cl t = (!(free t) || (s.2.2.1 t).isSome)) ∧ xs_R a s τ ∧ (∀ i, i < s.2.1 → τ.1 2 i = nI (s.1 i)) ∧ xs_F σ τ
theorem xs_I_new {a x t : Nat} {free : Nat → Bool} {σ τ : xk_St} {s : am_B} {cl : Int64} (h : xs_I a free σ s τ cl) (ht : t < 64) (hn : s.2.2.1 t = none) (hx : s.2.2.1 x ≠ none) :
    xs_I a free σ (am_set s.1 s.2.1 t, s.2.1 + 1, am_set s.2.2.1 t (some x), am_set s.2.2.2 t (s.2.2.2 x + 1)) (xk_up (xk_up (xk_up τ 3 t (nI x)) 4 t (nI (s.2.2.2 x + 1))) 2 s.2.1 (nI t)) (cl ||| xb_b (nI t)) := by
  obtain ⟨h1, h2, ⟨h3, h4⟩, h5, h6, h7⟩ := h
  have e4 : ∀ i, (xk_up (xk_up (xk_up τ 3 t (nI x)) 4 t (nI (s.2.2.2 x + 1))) 2 s.2.1 (nI t)).1 4 i = if i = t then nI (s.2.2.2 x + 1) else τ.1 4 i := fun i => by
    rw [xk_up_o (show 4 ≠ 2 by decide), xk_up_s, xk_up_o (show 4 ≠ 3 by decide)]
  have e3 : ∀ i, (xk_up (xk_up (xk_up τ 3 t (nI x)) 4 t (nI (s.2.2.2 x + 1))) 2 s.2.1 (nI t)).1 3 i = if i = t then nI x else τ.1 3 i := fun i => by
    rw [xk_up_o (show 3 ≠ 2 by decide), xk_up_o (show 3 ≠ 4 by decide), xk_up_s]
  have e2 : ∀ i, (xk_up (xk_up (xk_up τ 3 t (nI x)) 4 t (nI (s.2.2.2 x + 1))) 2 s.2.1 (nI t)).1 2 i = if i = s.2.1 then nI t else τ.1 2 i := fun i => by
    rw [xk_up_s, xk_up_o (show 2 ≠ 4 by decide), xk_up_o (show 2 ≠ 3 by decide)]
  refine ⟨am_inv_new h1 ht hn hx, fun i hi => ?_, ⟨fun i hi => ?_, fun i y hia hy => ?_⟩, fun i hi => ?_, h6, fun k k2 k3 k4 => ?_⟩
  · rw [xb_or, xb_bit t ht i hi, h2 i hi]
    show (_ || _) = (!(free i) || (am_set s.2.2.1 t (some x) i).isSome)
    by_cases e : i = t
    · subst e; rw [am_set_s]; simp
    · rw [am_set_n e]; simp [e]
  · rw [e4]
    by_cases e : i = t
    · subst e
      rw [if_pos rfl, xc_dp_s (show am_set s.2.2.1 i (some x) i ≠ none by rw [am_set_s]; simp)]
      show nI _ = nI (am_set s.2.2.2 i (s.2.2.2 x + 1) i)
      rw [am_set_s]
    · rw [if_neg e, h3 i hi]
      unfold xc_dp
      show _ = if am_set s.2.2.1 t (some x) i = none then -1 else nI (am_set s.2.2.2 t (s.2.2.2 x + 1) i)
      rw [am_set_n e, am_set_n e]
  · have hy : am_set s.2.2.1 t (some x) i = some y := hy
    rw [e3]
    by_cases e : i = t
    · subst e
      rw [am_set_s] at hy
      rw [if_pos rfl, Option.some.inj hy]
    · rw [am_set_n e] at hy
      rw [if_neg e, h4 i y hia hy]
  · have hi : i < s.2.1 + 1 := hi
    rw [e2]
    show _ = nI (am_set s.1 s.2.1 t i)
    by_cases e : i = s.2.1
    · subst e; rw [if_pos rfl, am_set_s]
    · rw [if_neg e, am_set_n e, h5 i (by omega)]
  · rw [xk_up_o k2, xk_up_o k4, xk_up_o k3]
    exact h7 k k2 k3 k4
section XSe
variable {G : xk_D} {σ : xk_St}
set_option maxHeartbeats 1000000 in
theorem k_G_search {W Av : Nat → Bool} {a b : Nat} {av : Int64} (hW : xc_W W σ) (hA : ∀ t, t < 64 → xb_t av t = Av t) (ha : a < 64) (hb : b < 64) : xk_M (xc G) 1 y_G_search [.ref (xk_wA (xc G) 1), .int (nI a), .int (nI b), .long av] σ (xk_pi (fun r τ => r = xc_dp (am_end (am_free W Av b) a b) b ∧ xs_R a (am_end (am_free W Av b) a b) τ ∧ xs_F σ τ)) := by
  refine xk_enter (by decide) (Nat.le_of_ble_eq_true rfl) (fun K hE hc => ?_)
  show xk_X K _ _ 0 [(0, _), (1, _), (2, _), (3, _)] []
  refine x_aload_n hE d_G_search_0 0 rfl ?_
  refine gf_G_21 hc d_G_search_1 rfl ?_
  refine x_lload_n hE d_G_search_4 3 rfl ?_
  refine x_iload_n hE d_G_search_5 2 rfl ?_
  refine ca_G_25 hc d_G_search_6 (k_G_bit) (fun r τ hq => ?_)
  obtain ⟨rfl, rfl⟩ := hq
  refine xl_G_29 hc d_G_search_9 ?_
  refine x_lxor hE d_G_search_12 ?_
  refine x_land hE d_G_search_13 ?_
  refine x_lor hE d_G_search_14 ?_
  refine x_iload_n hE d_G_search_15 1 rfl ?_
  refine ca_G_25 hc d_G_search_16 (k_G_bit) (fun r τ hq => ?_)
  obtain ⟨rfl, rfl⟩ := hq
  refine x_lor hE d_G_search_19 ?_
  refine x_lstore [(5, _), (0, _), (1, _), (2, _), (3, _)] hE d_G_search_20 (by decide) rfl ?_
  refine x_aload_n hE d_G_search_22 1 rfl ?_
  refine gf_G_18 hc d_G_search_23 ?_
  refine x_iconst (-1) hE d_G_search_26 (by decide) ?_
  refine ca_G_31 hc d_G_search_27 (k_A_fill (k := 4) (n := 64) rfl (by decide)) (fun τ hq => ?_)
  obtain rfl := hq
  refine x_aload_n hE d_G_search_30 1 rfl ?_
  refine gf_G_18 hc d_G_search_31 ?_
  refine x_iload_n hE d_G_search_34 2 rfl ?_
  refine x_iconst (nI 0) hE d_G_search_35 (by decide) ?_
  refine x_iast hc rfl rfl (by omega) (by decide) d_G_search_36 ?_
  refine x_aload_n hE d_G_search_37 1 rfl ?_
  refine gf_G_9 hc d_G_search_38 ?_
  refine x_iconst (nI 0) hE d_G_search_41 (by decide) ?_
  refine x_iload_n hE d_G_search_42 2 rfl ?_
  refine x_iast hc rfl rfl (by omega) (by decide) d_G_search_43 ?_
  refine x_iconst (nI 1) hE d_G_search_44 (by decide) ?_
  refine x_istore [(7, _), (5, _), (0, _), (1, _), (2, _), (3, _)] hE d_G_search_45 (by decide) rfl ?_
  refine x_iconst (nI 0) hE d_G_search_47 (by decide) ?_
  refine x_istore [(8, _), (7, _), (5, _), (0, _), (1, _), (2, _), (3, _)] hE d_G_search_48 (by decide) rfl ?_
  refine x_lv [3, 4, 5, 6, 2, 1, 0] (lv' := [(0, _), (1, _), (2, _), (3, _), (5, _), (7, _), (8, _)]) rfl ?_
  have last : ∀ (s : am_B) (τ : xk_St) (cl : Int64) (m g : Int32), xs_I a (am_free W Av b) σ s τ cl → s = am_end (am_free W Av b) a b → xk_X K (xk_vw (xc G)) τ 179 [(0, .ref (xk_wA (xc G) 1)), (1, .int (nI a)), (2, .int (nI b)), (3, .long av), (5, .long cl), (7, .int m), (8, .int g)] [] := by
    intro s τ cl m g hI hs
    refine x_aload_n hE d_G_search_179 0 rfl ?_
    refine gf_G_18 hc d_G_search_180 ?_
    refine x_iload_n hE d_G_search_183 2 rfl ?_
    refine x_iald hc rfl rfl (by omega) (by decide) d_G_search_184 (hI.2.2.1.1 b hb) ?_
    exact x_iret hc d_G_search_185 (⟨by rw [hs], hs ▸ hI.2.2.1, hI.2.2.2.2⟩)
  have inner : ∀ (m d : Nat) (s s0 : am_B) (x k : Nat) (τ : xk_St) (cl : Int64), d + m = 4 → x < 64 → s = am_exp (am_free W Av b) x s0 d → s.2.2.1 x ≠ none → xs_I a (am_free W Av b) σ s τ cl → k < 64 →
      (∀ (τ : xk_St) (cl : Int64), xs_I a (am_free W Av b) σ (am_exp (am_free W Av b) x s0 4) τ cl → xk_X K (xk_vw (xc G)) τ 50 [(0, .ref (xk_wA (xc G) 1)), (1, .int (nI a)), (2, .int (nI b)), (3, .long av), (5, .long cl), (7, .int (nI (am_exp (am_free W Av b) x s0 4).2.1)), (8, .int (nI (k + 1)))] []) →
      xk_X K (xk_vw (xc G)) τ 86 [(0, .ref (xk_wA (xc G) 1)), (1, .int (nI a)), (2, .int (nI b)), (3, .long av), (5, .long cl), (7, .int (nI s.2.1)), (8, .int (nI k)), (9, .int (nI x)), (10, .int (nI d))] [] := by
    intro m
    induction m with
    | zero =>
      intro d s s0 x k τ cl hd hx hs hne hI hk next
      refine x_iload hE d_G_search_86 8 rfl ?_
      refine x_iconst (nI 4) hE d_G_search_88 (by decide) ?_
      first | refine xn_icmp_ge hE d_G_search_89 (fun h => ?_) (fun h => ?_) | refine x_icmp_ge hE d_G_search_89 (fun h => ?_) (fun h => ?_)
      · skip
        refine x_iinc 6 (nI (_ + 1)) [(8, _), (0, _), (1, _), (2, _), (3, _), (5, _), (7, _), (9, _), (10, _)] hE d_G_search_173 rfl (nI_inc _) (by decide) rfl ?_
        refine x_goto hE d_G_search_176 ?_
        refine x_lv [1, 2, 3, 4, 5, 6, 0] (lv' := [(0, _), (1, _), (2, _), (3, _), (5, _), (7, _), (8, _)]) rfl ?_
        have hd4 : d = 4 := by omega
        subst hd4
        subst hs
        exact next τ cl hI
      · exact absurd h (by omega)
    | succ m ih =>
      intro d s s0 x k τ cl hd hx hs hne hI hk next
      have hmet := am_inv_met hI.1
      have skip : am_try (am_free W Av b) x d s = s → ∀ z : Int32, xk_X K (xk_vw (xc G)) τ 167 [(11, .int z), (0, .ref (xk_wA (xc G) 1)), (1, .int (nI a)), (2, .int (nI b)), (3, .long av), (5, .long cl), (7, .int (nI s.2.1)), (8, .int (nI k)), (9, .int (nI x)), (10, .int (nI d))] [] := by
        intro ht z
        refine x_iinc 9 (nI (_ + 1)) [(10, _), (11, _), (0, _), (1, _), (2, _), (3, _), (5, _), (7, _), (8, _), (9, _)] hE d_G_search_167 rfl (nI_inc _) (by decide) rfl ?_
        refine x_goto hE d_G_search_170 ?_
        refine x_lv [2, 3, 4, 5, 6, 7, 8, 9, 0] (lv' := [(0, _), (1, _), (2, _), (3, _), (5, _), (7, _), (8, _), (9, _), (10, _)]) rfl ?_
        exact ih (d + 1) s s0 x k τ cl (by omega) hx (by rw [am_exp, ← hs, ht]) hne hI hk next
      refine x_iload hE d_G_search_86 8 rfl ?_
      refine x_iconst (nI 4) hE d_G_search_88 (by decide) ?_
      first | refine xn_icmp_ge hE d_G_search_89 (fun h => ?_) (fun h => ?_) | refine x_icmp_ge hE d_G_search_89 (fun h => ?_) (fun h => ?_)
      · exact absurd h (by omega)
      · skip
        refine x_iload hE d_G_search_92 7 rfl ?_
        refine x_iload hE d_G_search_94 8 rfl ?_
        refine ca_G_37 hc d_G_search_96 (k_G_beside hx (show d < 4 by omega)) (fun r τ hq => ?_)
        obtain ⟨rfl, rfl⟩ := hq
        refine x_istore [(11, _), (0, _), (1, _), (2, _), (3, _), (5, _), (7, _), (8, _), (9, _), (10, _)] hE d_G_search_99 (by decide) rfl ?_
        refine x_iload hE d_G_search_101 0 rfl ?_
        refine x_iconst (-1) hE d_G_search_103 (by decide) ?_
        cases hbs : am_beside x d with
        | none =>
          refine x_icmp_eq hE d_G_search_104 (fun h2 => ?_) (fun h2 => ?_)
          · exact skip (by unfold am_try; rw [hbs]) _
          · exact absurd rfl h2
        | some t =>
          have ht := am_beside_lt hx hbs
          show xk_X K _ τ 104 _ [.int (-1), .int (nI t)]
          refine x_icmp_eq hE d_G_search_104 (fun h2 => ?_) (fun h2 => ?_)
          · exact absurd h2 (nI_m1 (by omega))
          · skip
            show xk_X K _ τ 107 [(11, .int (nI t)), (0, _), (1, _), (2, _), (3, _), (5, _), (7, _), (8, _), (9, _), (10, _)] _
            refine x_lload hE d_G_search_107 5 rfl ?_
            refine x_iload hE d_G_search_109 0 rfl ?_
            refine ca_G_25 hc d_G_search_111 (k_G_bit) (fun r τ hq => ?_)
            obtain ⟨rfl, rfl⟩ := hq
            refine x_land hE d_G_search_114 ?_
            refine x_lconst 0 hE d_G_search_115 (by decide) ?_
            refine x_lcmp hE d_G_search_116 ?_
            refine x_if_ne hE d_G_search_117 (fun h3 => ?_) (fun h3 => ?_)
            · rw [xb_test ht, hI.2.1 t ht] at h3
              refine skip ?_ _
              unfold am_try
              rw [hbs]
              simp only []
              rw [if_neg]
              intro z
              rw [z.1, z.2] at h3
              exact h3 (by decide)
            · skip
              rw [xb_test ht, hI.2.1 t ht] at h3
              have hfr : s.2.2.1 t = none := by
                cases hz : s.2.2.1 t with
                | none => rfl
                | some y => rw [hz] at h3; simp at h3
              have hfree : am_free W Av b t = true := by
                cases hz : am_free W Av b t with
                | true => rfl
                | false => rw [hz] at h3; simp at h3
              have hroom := am_inv_room hI.1 ht hfr
              have htry : am_try (am_free W Av b) x d s = (am_set s.1 s.2.1 t, s.2.1 + 1, am_set s.2.2.1 t (some x), am_set s.2.2.2 t (s.2.2.2 x + 1)) := by
                unfold am_try
                rw [hbs]
                simp only []
                rw [if_pos ⟨hfr, hfree⟩]
              have hI2 := xs_I_new hI ht hfr hne
              have h4x : (xk_up τ 3 t (nI x)).1 4 x = nI (s.2.2.2 x) := by
                rw [xk_up_o (show 4 ≠ 3 by decide), hI.2.2.1.1 x hx, xc_dp_s hne]
              refine x_lload hE d_G_search_120 5 rfl ?_
              refine x_iload hE d_G_search_122 0 rfl ?_
              refine ca_G_25 hc d_G_search_124 (k_G_bit) (fun r τ hq => ?_)
              obtain ⟨rfl, rfl⟩ := hq
              refine x_lor hE d_G_search_127 ?_
              refine x_lstore [(5, _), (11, _), (0, _), (1, _), (2, _), (3, _), (7, _), (8, _), (9, _), (10, _)] hE d_G_search_128 (by decide) rfl ?_
              refine x_aload_n hE d_G_search_130 2 rfl ?_
              refine gf_G_15 hc d_G_search_131 ?_
              refine x_iload hE d_G_search_134 1 rfl ?_
              refine x_iload hE d_G_search_136 8 rfl ?_
              refine x_iast hc rfl rfl (by omega) (by decide) d_G_search_138 ?_
              refine x_aload_n hE d_G_search_139 2 rfl ?_
              refine gf_G_18 hc d_G_search_140 ?_
              refine x_iload hE d_G_search_143 1 rfl ?_
              refine x_aload_n hE d_G_search_145 2 rfl ?_
              refine gf_G_18 hc d_G_search_146 ?_
              refine x_iload hE d_G_search_149 8 rfl ?_
              refine x_iald hc rfl rfl (by omega) (by decide) d_G_search_151 h4x ?_
              refine x_iconst (nI 1) hE d_G_search_152 (by decide) ?_
              first | refine xn_iadd hE d_G_search_153 ?_ | refine x_iadd hE d_G_search_153 ?_
              refine x_iast hc rfl rfl (by omega) (by decide) d_G_search_154 ?_
              refine x_aload_n hE d_G_search_155 2 rfl ?_
              refine gf_G_9 hc d_G_search_156 ?_
              refine x_iload hE d_G_search_159 6 rfl ?_
              refine x_iload hE d_G_search_161 1 rfl ?_
              refine x_iast hc rfl rfl (by omega) (by decide) d_G_search_163 ?_
              refine x_iinc 6 (nI (_ + 1)) [(7, _), (5, _), (11, _), (0, _), (1, _), (2, _), (3, _), (8, _), (9, _), (10, _)] hE d_G_search_164 rfl (nI_inc _) (by decide) rfl ?_
              refine x_iinc 9 (nI (_ + 1)) [(10, _), (7, _), (5, _), (11, _), (0, _), (1, _), (2, _), (3, _), (8, _), (9, _)] hE d_G_search_167 rfl (nI_inc _) (by decide) rfl ?_
              refine x_goto hE d_G_search_170 ?_
              refine x_lv [4, 5, 6, 7, 2, 1, 8, 9, 0] (lv' := [(0, _), (1, _), (2, _), (3, _), (5, _), (7, _), (8, _), (9, _), (10, _)]) rfl ?_
              refine ih (d + 1) _ s0 x k _ _ (by omega) hx (by rw [am_exp, ← hs, htry]) ?_ hI2 hk next
              show am_set s.2.2.1 t (some x) x ≠ none
              rw [am_set_n (fun e => hne (by rw [e]; exact hfr))]
              exact hne
  have outer : ∀ (f k : Nat) (s : am_B) (τ : xk_St) (cl : Int64), k + f = 64 → xs_I a (am_free W Av b) σ s τ cl → am_bfs (am_free W Av b) b f k s = am_end (am_free W Av b) a b → xk_X K (xk_vw (xc G)) τ 50 [(0, .ref (xk_wA (xc G) 1)), (1, .int (nI a)), (2, .int (nI b)), (3, .long av), (5, .long cl), (7, .int (nI s.2.1)), (8, .int (nI k))] [] := by
    intro f
    induction f with
    | zero =>
      intro k s τ cl hk hI he
      refine x_iload hE d_G_search_50 6 rfl ?_
      refine x_bipush (nI 64) hE d_G_search_52 (by decide) ?_
      first | refine xn_icmp_ge hE d_G_search_54 (fun h => ?_) (fun h => ?_) | refine x_icmp_ge hE d_G_search_54 (fun h => ?_) (fun h => ?_)
      · exact last s τ cl _ _ hI he
      · exact absurd h (by omega)
    | succ f ih =>
      intro k s τ cl hk hI he
      have hmet := am_inv_met hI.1
      refine x_iload hE d_G_search_50 6 rfl ?_
      refine x_bipush (nI 64) hE d_G_search_52 (by decide) ?_
      first | refine xn_icmp_ge hE d_G_search_54 (fun h => ?_) (fun h => ?_) | refine x_icmp_ge hE d_G_search_54 (fun h => ?_) (fun h => ?_)
      · exact absurd h (by omega)
      · skip
        refine x_iload hE d_G_search_57 6 rfl ?_
        refine x_iload hE d_G_search_59 5 rfl ?_
        first | refine xn_icmp_ge hE d_G_search_61 (fun h1 => ?_) (fun h1 => ?_) | refine x_icmp_ge hE d_G_search_61 (fun h1 => ?_) (fun h1 => ?_)
        · refine last s τ cl _ _ hI ?_
          rw [am_bfs, if_neg (by omega)] at he
          exact he
        · skip
          refine x_aload_n hE d_G_search_64 0 rfl ?_
          refine gf_G_18 hc d_G_search_65 ?_
          refine x_iload_n hE d_G_search_68 2 rfl ?_
          refine x_iald hc rfl rfl (by omega) (by decide) d_G_search_69 (hI.2.2.1.1 b hb) ?_
          refine x_iconst (-1) hE d_G_search_70 (by decide) ?_
          refine x_icmp_ne hE d_G_search_71 (fun h2 => ?_) (fun h2 => ?_)
          · refine last s τ cl _ _ hI ?_
            rw [am_bfs, if_neg (fun z => h2 (xc_dp_n z.2))] at he
            exact he
          · skip
            have hfb : s.2.2.1 b = none := by
              cases hz : s.2.2.1 b with
              | none => rfl
              | some y =>
                have h9 : s.2.2.1 b ≠ none := by rw [hz]; simp
                rw [xc_dp_s h9] at h2
                have := (hI.1.2.2.2 b y hz).2.2.2.1
                exact absurd h2 (nI_m1 (by omega))
            obtain ⟨g1, g2⟩ := hI.1.2.2.1 k h1
            refine x_aload_n hE d_G_search_74 0 rfl ?_
            refine gf_G_9 hc d_G_search_75 ?_
            refine x_iload hE d_G_search_78 6 rfl ?_
            refine x_iald hc rfl rfl (by omega) (by decide) d_G_search_80 (hI.2.2.2.1 k h1) ?_
            refine x_istore [(9, _), (0, _), (1, _), (2, _), (3, _), (5, _), (7, _), (8, _)] hE d_G_search_81 (by decide) rfl ?_
            refine x_iconst (nI 0) hE d_G_search_83 (by decide) ?_
            refine x_istore [(10, _), (9, _), (0, _), (1, _), (2, _), (3, _), (5, _), (7, _), (8, _)] hE d_G_search_84 (by decide) rfl ?_
            refine x_lv [2, 3, 4, 5, 6, 7, 8, 1, 0] (lv' := [(0, _), (1, _), (2, _), (3, _), (5, _), (7, _), (8, _), (9, _), (10, _)]) rfl ?_
            refine inner 4 0 s s (s.1 k) k τ cl rfl g1 rfl g2 hI (by omega) (fun τ2 cl2 hI2 => ?_)
            refine ih (k + 1) _ τ2 cl2 (by omega) hI2 ?_
            rw [am_bfs, if_pos ⟨h1, hfb⟩] at he
            exact he
  refine outer 64 0 (am_ini a) _ _ rfl ⟨am_inv_ini ha, fun t ht => ?_, ⟨fun t ht => ?_, fun t x hta hx => ?_⟩, fun i hi => ?_, rfl, fun k k2 k3 k4 => ?_⟩ rfl
  · rw [xb_or, xb_or, xb_and, xb_not _ ht, xb_bit b hb t ht, xb_bit a ha t ht, hW t ht, hA t ht]
    unfold am_free
    show _ = (!(!W t && (decide (t = b) || !Av t)) || (if t = a then some a else none : Option Nat).isSome)
    have e3 : (if t = a then some a else none : Option Nat).isSome = decide (t = a) := by by_cases e : t = a <;> simp [e]
    rw [e3]
    generalize decide (t = b) = p1
    generalize decide (t = a) = p2
    cases W t <;> cases Av t <;> cases p1 <;> cases p2 <;> rfl
  · rw [xk_up_o (show 4 ≠ 2 by decide), xk_up_s]
    unfold xc_dp
    show _ = if (if t = a then some a else none : Option Nat) = none then -1 else nI 0
    by_cases e : t = a
    · simp [e]
    · rw [if_neg e, if_neg e, if_pos rfl]
      simp [xk_row, ht]
  · have hx : (if t = a then some a else none : Option Nat) = some x := hx
    rw [if_neg hta] at hx
    cases hx
  · have hi : i < 1 := hi
    rw [show i = 0 by omega, xk_up_s, if_pos rfl]
    rfl
  · rw [xk_up_o k2, xk_up_o k4]
    exact (xk_row_ne k k4).1
end XSe
