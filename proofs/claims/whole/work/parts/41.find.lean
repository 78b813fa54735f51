/-! THE REFERENCE: its search -/
def xm_F (σ τ : xk_St) : Prop := τ.2 = σ.2 ∧ ∀ k, k ≠ 23 → k ≠ 24 → k ≠ 25 → τ.1 k = σ.1 k
def xm_I (a : Nat) (σ : xk_St) (s : am_B) (τ : xk_St) : Prop := am_inv a s ∧ (∀ t, t < 64 → τ.1 24 t = xc_o (s.2.2.1 t)) ∧ (∀ i, i < s.2.1 → τ.1 23 i = nI (s.1 i)) ∧ xm_F σ τ
theorem xm_I_new {a x t : Nat} {σ τ : xk_St} {s : am_B} (h : xm_I a σ s τ) (ht : t < 64) (hn : s.2.2.1 t = none) (hx : s.2.2.1 x ≠ none) :
    xm_I a σ (am_set s.1 s.2.1 t, s.2.1 + 1, am_set s.2.2.1 t (some x), am_set s.2.2.2 t (s.2.2.2 x + 1)) (xk_up (xk_up τ 24 t (nI x)) 23 s.2.1 (nI t)) := by
  obtain ⟨h1, h2, h3, h4, h5⟩ := h
  refine ⟨am_inv_new h1 ht hn hx, fun i hi => ?_, fun i hi => ?_, h4, fun k k1 k2 k3 => ?_⟩
  · rw [xk_up_o (by decide), xk_up_s]
    show _ = xc_o (am_set s.2.2.1 t (some x) i)
    by_cases e : i = t
    · subst e; rw [if_pos rfl, am_set_s]; rfl
    · rw [if_neg e, am_set_n e]; exact h2 i hi
  · have hi : i < s.2.1 + 1 := hi
    rw [xk_up_s, xk_up_o (by decide)]
    show _ = nI (am_set s.1 s.2.1 t i)
    by_cases e : i = s.2.1
    · subst e; rw [if_pos rfl, am_set_s]
    · rw [if_neg e, am_set_n e]; exact h3 i (by omega)
  · rw [xk_up_o k1, xk_up_o k2]; exact h5 k k1 k2 k3
section XM2
variable {G : xk_D} {σ : xk_St} {n : Nat} {P : am_P} {W : Nat → Bool}
set_option maxHeartbeats 1000000 in
theorem k_M_find (hn : n ≤ 8) (hpl : xm_pl n P σ) (hok : am_okP n P) (hW : xm_W W σ) {a b av : Nat} (ha : a < 64) (hb : b < 64) (hav : av < 2) {Av : Nat → Bool} (hAv : ∀ t, Av t = (decide (av = 1) && am_taken P t n)) : xk_M (xm G) 1 y_M_find [.ref (xk_wA (xm G) 0), .int (nI a), .int (nI b), .int (nI av)] σ (xk_pi (fun r τ => r = nI (am_find (am_free W Av b) a b).length ∧ (∀ i (h : i < (am_find (am_free W Av b) a b).length), τ.1 25 i = nI ((am_find (am_free W Av b) a b)[i])) ∧ xm_F σ τ)) := by
  have hend := am_inv_end (free := am_free W Av b) (b := b) ha
  have hmetE := am_inv_met hend
  refine xk_enter (by decide) (Nat.le_of_ble_eq_true rfl) (fun K hE hc => ?_)
  show xk_X K _ _ 0 [(0, _), (1, _), (2, _), (3, _)] []
  refine x_iconst (nI 0) hE d_M_find_0 (by decide) ?_
  refine x_istore [(4, _), (0, _), (1, _), (2, _), (3, _)] hE d_M_find_1 (by decide) rfl ?_
  refine x_lv [1, 2, 3, 4, 0] (lv' := [(0, _), (1, _), (2, _), (3, _), (4, _)]) rfl ?_
  have wr : ∀ (m t : Nat) (suf : List Nat) (τ : xk_St) (v4 : Int32), (am_end (am_free W Av b) a b).2.2.1 t ≠ none → (am_end (am_free W Av b) a b).2.2.2 t = m → am_find (am_free W Av b) a b = am_chain (am_end (am_free W Av b) a b).2.2.1 m t ++ suf → (∀ q, q < 64 → τ.1 24 q = xc_o ((am_end (am_free W Av b) a b).2.2.1 q)) → xm_F σ τ → (∀ i (h : i < suf.length), τ.1 25 (m + i) = nI (suf[i])) → (am_find (am_free W Av b) a b).length < 64 →
      xk_X K (xk_vw (xm G)) τ 210 [(0, .ref (xk_wA (xm G) 0)), (1, .int (nI a)), (2, .int (nI b)), (3, .int (nI av)), (4, .int v4), (5, .int (nI (am_find (am_free W Av b) a b).length)), (6, .int (nI m)), (7, .int (nI t))] [] := by
    intro m
    induction m with
    | zero =>
      intro t suf τ v4 ht hm hch h24 hF hw hlen
      obtain ⟨x, hx⟩ := Option.ne_none_iff_exists'.mp ht
      obtain ⟨g1, g2, g3, g4, g5⟩ := hend.2.2.2 t x hx
      have hta : t = a := by
        rcases g5 with ⟨g6, -⟩ | ⟨-, g6⟩
        · exact g6
        · omega
      refine x_iload hE d_M_find_210 7 rfl ?_
      refine x_iload_n hE d_M_find_212 1 rfl ?_
      first | refine xn_icmp_eq hE d_M_find_213 (fun h => ?_) (fun h => ?_) | refine x_icmp_eq hE d_M_find_213 (fun h => ?_) (fun h => ?_)
      · skip
        refine x_iload hE d_M_find_240 5 rfl ?_
        refine x_iret hc d_M_find_242 ⟨rfl, fun i hi => ?_, hF⟩
        have hi2 : i < suf.length := by
          rw [hch] at hi
          simpa [am_chain] using hi
        have h3 := hw i hi2
        rw [Nat.zero_add] at h3
        rw [h3]
        congr 1
        simp [hch, am_chain]
      · exact absurd hta h
    | succ m ih =>
      intro t suf τ v4 ht hm hch h24 hF hw hlen
      obtain ⟨x, hx⟩ := Option.ne_none_iff_exists'.mp ht
      obtain ⟨g1, g2, g3, g4, g5⟩ := hend.2.2.2 t x hx
      have hta : t ≠ a ∧ (am_end (am_free W Av b) a b).2.2.2 x = m := by
        rcases g5 with ⟨-, -, g6⟩ | ⟨g6, g7⟩
        · omega
        · exact ⟨g6, by omega⟩
      refine x_iload hE d_M_find_210 7 rfl ?_
      refine x_iload_n hE d_M_find_212 1 rfl ?_
      first | refine xn_icmp_eq hE d_M_find_213 (fun h => ?_) (fun h => ?_) | refine x_icmp_eq hE d_M_find_213 (fun h => ?_) (fun h => ?_)
      · exact absurd h hta.1
      · skip
        refine x_iinc 6 (nI (_ - 1)) [(6, _), (0, _), (1, _), (2, _), (3, _), (4, _), (5, _), (7, _)] hE d_M_find_216 rfl (nI_dec _ (by omega)) (by decide) rfl ?_
        refine x_aload_n hE d_M_find_219 1 rfl ?_
        refine gf_M_83 hc d_M_find_220 ?_
        refine x_iload hE d_M_find_223 0 rfl ?_
        refine x_iload hE d_M_find_225 7 rfl ?_
        refine x_iast hc rfl rfl (by omega) (by decide) d_M_find_227 ?_
        refine x_aload_n hE d_M_find_228 1 rfl ?_
        refine gf_M_80 hc d_M_find_229 ?_
        refine x_iload hE d_M_find_232 7 rfl ?_
        refine x_iald hc rfl rfl (by omega) (by decide) d_M_find_234 (show _ = nI x by rw [xk_up_o (by decide), h24 t g1, hx]; rfl) ?_
        refine x_istore [(7, _), (6, _), (0, _), (1, _), (2, _), (3, _), (4, _), (5, _)] hE d_M_find_235 (by decide) rfl ?_
        refine x_goto hE d_M_find_237 ?_
        refine x_lv [2, 3, 4, 5, 6, 7, 1, 0] (lv' := [(0, _), (1, _), (2, _), (3, _), (4, _), (5, _), (6, _), (7, _)]) rfl ?_
        refine ih x (t :: suf) _ v4 g3 hta.2 ?_ (fun q hq => by rw [xk_up_o (by decide)]; exact h24 q hq) ⟨hF.1, fun k k1 k2 k3 => by rw [xk_up_o k3]; exact hF.2 k k1 k2 k3⟩ (fun i hi => ?_) hlen
        · rw [hch, am_chain, hx]
          simp
        · rw [xk_up_s]
          cases i with
          | zero => simp
          | succ i =>
            rw [if_neg (by omega)]
            have h3 := hw i (by simpa using hi)
            rw [show m + 1 + i = m + (i + 1) by omega] at h3
            rw [h3]
            rfl
  have cnt : ∀ (m t c : Nat) (τ : xk_St) (v4 : Int32), (am_end (am_free W Av b) a b).2.2.1 t ≠ none → (am_end (am_free W Av b) a b).2.2.2 t = m → c + m = (am_end (am_free W Av b) a b).2.2.2 b → (am_end (am_free W Av b) a b).2.2.1 b ≠ none → (∀ q, q < 64 → τ.1 24 q = xc_o ((am_end (am_free W Av b) a b).2.2.1 q)) → xm_F σ τ →
      xk_X K (xk_vw (xm G)) τ 182 [(0, .ref (xk_wA (xm G) 0)), (1, .int (nI a)), (2, .int (nI b)), (3, .int (nI av)), (4, .int v4), (5, .int (nI c)), (6, .int (nI t))] [] := by
    intro m
    induction m with
    | zero =>
      intro t c τ v4 ht hm hcm hfb h24 hF
      obtain ⟨x, hx⟩ := Option.ne_none_iff_exists'.mp ht
      obtain ⟨g1, g2, g3, g4, g5⟩ := hend.2.2.2 t x hx
      have hta : t = a := by
        rcases g5 with ⟨g6, -⟩ | ⟨-, g6⟩
        · exact g6
        · omega
      refine x_iload hE d_M_find_182 6 rfl ?_
      refine x_iload_n hE d_M_find_184 1 rfl ?_
      first | refine xn_icmp_eq hE d_M_find_185 (fun h => ?_) (fun h => ?_) | refine x_icmp_eq hE d_M_find_185 (fun h => ?_) (fun h => ?_)
      · skip
        have hfe : am_find (am_free W Av b) a b = am_chain (am_end (am_free W Av b) a b).2.2.1 ((am_end (am_free W Av b) a b).2.2.2 b) b := by unfold am_find; rw [if_neg hfb]
        have hl : (am_find (am_free W Av b) a b).length = c := by rw [hfe, am_chain_len]; omega
        obtain ⟨y, hy⟩ := Option.ne_none_iff_exists'.mp hfb
        have hdb := (hend.2.2.2 b y hy).2.2.2.1
        refine x_iload hE d_M_find_203 5 rfl ?_
        refine x_istore [(6, _), (0, _), (1, _), (2, _), (3, _), (4, _), (5, _)] hE d_M_find_205 (by decide) rfl ?_
        refine x_iload_n hE d_M_find_207 3 rfl ?_
        refine x_istore [(7, _), (6, _), (0, _), (1, _), (2, _), (3, _), (4, _), (5, _)] hE d_M_find_208 (by decide) rfl ?_
        refine x_lv [2, 3, 4, 5, 6, 7, 1, 0] (lv' := [(0, _), (1, _), (2, _), (3, _), (4, _), (5, _), (6, _), (7, _)]) rfl ?_
        rw [← hl]
        exact wr _ b [] τ v4 hfb (by rw [hl]; omega) (by rw [hl, show c = (am_end (am_free W Av b) a b).2.2.2 b by omega, hfe]; simp) h24 hF (fun i hi => absurd hi (Nat.not_lt_zero _)) (by omega)
      · exact absurd hta h
    | succ m ih =>
      intro t c τ v4 ht hm hcm hfb h24 hF
      obtain ⟨x, hx⟩ := Option.ne_none_iff_exists'.mp ht
      obtain ⟨g1, g2, g3, g4, g5⟩ := hend.2.2.2 t x hx
      have hta : t ≠ a ∧ (am_end (am_free W Av b) a b).2.2.2 x = m := by
        rcases g5 with ⟨-, -, g6⟩ | ⟨g6, g7⟩
        · omega
        · exact ⟨g6, by omega⟩
      refine x_iload hE d_M_find_182 6 rfl ?_
      refine x_iload_n hE d_M_find_184 1 rfl ?_
      first | refine xn_icmp_eq hE d_M_find_185 (fun h => ?_) (fun h => ?_) | refine x_icmp_eq hE d_M_find_185 (fun h => ?_) (fun h => ?_)
      · exact absurd h hta.1
      · skip
        refine x_iinc 5 (nI (_ + 1)) [(5, _), (0, _), (1, _), (2, _), (3, _), (4, _), (6, _)] hE d_M_find_188 rfl (nI_inc _) (by decide) rfl ?_
        refine x_aload_n hE d_M_find_191 1 rfl ?_
        refine gf_M_80 hc d_M_find_192 ?_
        refine x_iload hE d_M_find_195 6 rfl ?_
        refine x_iald hc rfl rfl (by omega) (by decide) d_M_find_197 (show _ = nI x by rw [h24 t g1, hx]; rfl) ?_
        refine x_istore [(6, _), (5, _), (0, _), (1, _), (2, _), (3, _), (4, _)] hE d_M_find_198 (by decide) rfl ?_
        refine x_goto hE d_M_find_200 ?_
        refine x_lv [2, 3, 4, 5, 6, 1, 0] (lv' := [(0, _), (1, _), (2, _), (3, _), (4, _), (5, _), (6, _)]) rfl ?_
        exact ih x (c + 1) τ v4 g3 hta.2 (by omega) hfb h24 hF
  have last : ∀ (s : am_B) (τ : xk_St) (v5 : Int32), xm_I a σ s τ → s = am_end (am_free W Av b) a b → xk_X K (xk_vw (xm G)) τ 165 [(0, .ref (xk_wA (xm G) 0)), (1, .int (nI a)), (2, .int (nI b)), (3, .int (nI av)), (4, .int (nI s.2.1)), (5, .int v5)] [] := by
    intro s τ v5 hI hs
    subst hs
    refine x_aload_n hE d_M_find_165 0 rfl ?_
    refine gf_M_80 hc d_M_find_166 ?_
    refine x_iload_n hE d_M_find_169 2 rfl ?_
    refine x_iald hc rfl rfl (by omega) (by decide) d_M_find_170 (hI.2.1 b hb) ?_
    cases hfb : (am_end (am_free W Av b) a b).2.2.1 b with
    | none =>
      have e : am_find (am_free W Av b) a b = [] := by unfold am_find; rw [if_pos hfb]
      refine x_if_ge hE d_M_find_171 (fun z => ?_) (fun z => ?_)
      · exact absurd z (by decide)
      · skip
        refine x_iconst (nI 0) hE d_M_find_174 (by decide) ?_
        exact x_iret hc d_M_find_175 (⟨by rw [e]; rfl, fun i hi => by rw [e] at hi; exact absurd hi (Nat.not_lt_zero _), hI.2.2.2⟩)
    | some y =>
      have hfb2 : (am_end (am_free W Av b) a b).2.2.1 b ≠ none := by rw [hfb]; simp
      have hy := (hend.2.2.2 b y hfb).2.1
      show xk_X K _ τ 171 _ [.int (nI y)]
      first | refine xn_if_ge hE d_M_find_171 (fun z => ?_) (fun z => ?_) | refine x_if_ge hE d_M_find_171 (fun z => ?_) (fun z => ?_)
      · skip
        refine x_iconst (nI 0) hE d_M_find_176 (by decide) ?_
        refine x_istore [(5, _), (0, _), (1, _), (2, _), (3, _), (4, _)] hE d_M_find_177 (by decide) rfl ?_
        refine x_iload_n hE d_M_find_179 3 rfl ?_
        refine x_istore [(6, _), (5, _), (0, _), (1, _), (2, _), (3, _), (4, _)] hE d_M_find_180 (by decide) rfl ?_
        refine x_lv [2, 3, 4, 5, 6, 1, 0] (lv' := [(0, _), (1, _), (2, _), (3, _), (4, _), (5, _), (6, _)]) rfl ?_
        exact cnt _ b 0 τ _ hfb2 rfl (by omega) hfb2 hI.2.1 hI.2.2.2
      · exact absurd z not_false
  have inner : ∀ (m d : Nat) (s s0 : am_B) (x k : Nat) (τ : xk_St), d + m = 4 → x < 64 → s = am_exp (am_free W Av b) x s0 d → s.2.2.1 x ≠ none → xm_I a σ s τ → k < s.2.1 → s.1 k = x →
      (∀ (τ : xk_St), xm_I a σ (am_exp (am_free W Av b) x s0 4) τ → xk_X K (xk_vw (xm G)) τ 44 [(0, .ref (xk_wA (xm G) 0)), (1, .int (nI a)), (2, .int (nI b)), (3, .int (nI av)), (4, .int (nI (am_exp (am_free W Av b) x s0 4).2.1)), (5, .int (nI (k + 1)))] []) →
      xk_X K (xk_vw (xm G)) τ 63 [(0, .ref (xk_wA (xm G) 0)), (1, .int (nI a)), (2, .int (nI b)), (3, .int (nI av)), (4, .int (nI s.2.1)), (5, .int (nI k)), (6, .int (nI d))] [] := by
    intro m
    induction m with
    | zero =>
      intro d s s0 x k τ hd hx hs hne hI hk hq next
      refine x_iload hE d_M_find_63 6 rfl ?_
      refine x_iconst (nI 4) hE d_M_find_65 (by decide) ?_
      first | refine xn_icmp_ge hE d_M_find_66 (fun h => ?_) (fun h => ?_) | refine x_icmp_ge hE d_M_find_66 (fun h => ?_) (fun h => ?_)
      · skip
        refine x_iinc 5 (nI (_ + 1)) [(5, _), (0, _), (1, _), (2, _), (3, _), (4, _), (6, _)] hE d_M_find_159 rfl (nI_inc _) (by decide) rfl ?_
        refine x_goto hE d_M_find_162 ?_
        refine x_lv [1, 2, 3, 4, 5, 0] (lv' := [(0, _), (1, _), (2, _), (3, _), (4, _), (5, _)]) rfl ?_
        have hd4 : d = 4 := by omega
        subst hd4
        subst hs
        exact next τ hI
      · exact absurd h (by omega)
    | succ m ih =>
      intro d s s0 x k τ hd hx hs hne hI hk hq next
      have hmet := am_inv_met hI.1
      have hplt : xm_pl n P τ := hpl.mv (fun k hk => hI.2.2.2.2 k (by omega) (by omega) (by omega))
      have hWt : xm_W W τ := hW.mv (hI.2.2.2.2 1 (by omega) (by omega) (by omega))
      have skip : am_try (am_free W Av b) x d s = s → ∀ z : Int32, xk_X K (xk_vw (xm G)) τ 153 [(7, .int z), (0, .ref (xk_wA (xm G) 0)), (1, .int (nI a)), (2, .int (nI b)), (3, .int (nI av)), (4, .int (nI s.2.1)), (5, .int (nI k)), (6, .int (nI d))] [] := by
        intro ht z
        refine x_iinc 7 (nI (_ + 1)) [(6, _), (7, _), (0, _), (1, _), (2, _), (3, _), (4, _), (5, _)] hE d_M_find_153 rfl (nI_inc _) (by decide) rfl ?_
        refine x_goto hE d_M_find_156 ?_
        refine x_lv [2, 3, 4, 5, 6, 7, 0] (lv' := [(0, _), (1, _), (2, _), (3, _), (4, _), (5, _), (6, _)]) rfl ?_
        exact ih (d + 1) s s0 x k τ (by omega) hx (by rw [am_exp, ← hs, ht]) hne hI hk hq next
      refine x_iload hE d_M_find_63 6 rfl ?_
      refine x_iconst (nI 4) hE d_M_find_65 (by decide) ?_
      first | refine xn_icmp_ge hE d_M_find_66 (fun h => ?_) (fun h => ?_) | refine x_icmp_ge hE d_M_find_66 (fun h => ?_) (fun h => ?_)
      · exact absurd h (by omega)
      · skip
        refine x_aload_n hE d_M_find_69 0 rfl ?_
        refine gf_M_77 hc d_M_find_70 ?_
        refine x_iload hE d_M_find_73 5 rfl ?_
        refine x_iald hc rfl rfl (by omega) (by decide) d_M_find_75 (show _ = nI x by rw [hI.2.2.1 k hk, hq]) ?_
        refine x_iload hE d_M_find_76 6 rfl ?_
        refine ca_M_113 hc d_M_find_78 (k_M_beside hx (show d < 4 by omega)) (fun r τ hq => ?_)
        obtain ⟨rfl, rfl⟩ := hq
        refine x_istore [(7, _), (0, _), (1, _), (2, _), (3, _), (4, _), (5, _), (6, _)] hE d_M_find_81 (by decide) rfl ?_
        refine x_iload hE d_M_find_83 0 rfl ?_
        cases hbs : am_beside x d with
        | none =>
          refine x_if_lt hE d_M_find_85 (fun h2 => ?_) (fun h2 => ?_)
          · exact skip (by unfold am_try; rw [hbs]) _
          · exact absurd (by decide) h2
        | some t =>
          have ht := am_beside_lt hx hbs
          have new : s.2.2.1 t = none → am_free W Av b t = true → xk_X K (xk_vw (xm G)) τ 127 [(7, .int (nI t)), (0, .ref (xk_wA (xm G) 0)), (1, .int (nI a)), (2, .int (nI b)), (3, .int (nI av)), (4, .int (nI s.2.1)), (5, .int (nI k)), (6, .int (nI d))] [] := by
            intro hfr hfree
            have hroom := am_inv_room hI.1 ht hfr
            have htry : am_try (am_free W Av b) x d s = (am_set s.1 s.2.1 t, s.2.1 + 1, am_set s.2.2.1 t (some x), am_set s.2.2.2 t (s.2.2.2 x + 1)) := by
              unfold am_try
              rw [hbs]
              simp only []
              rw [if_pos ⟨hfr, hfree⟩]
            have hI2 := xm_I_new hI ht hfr hne
            refine x_aload_n hE d_M_find_127 1 rfl ?_
            refine gf_M_80 hc d_M_find_128 ?_
            refine x_iload hE d_M_find_131 0 rfl ?_
            refine x_aload_n hE d_M_find_133 1 rfl ?_
            refine gf_M_77 hc d_M_find_134 ?_
            refine x_iload hE d_M_find_137 6 rfl ?_
            refine x_iald hc rfl rfl (by omega) (by decide) d_M_find_139 (show _ = nI x by rw [hI.2.2.1 k hk, hq]) ?_
            refine x_iast hc rfl rfl (by omega) (by decide) d_M_find_140 ?_
            refine x_aload_n hE d_M_find_141 1 rfl ?_
            refine gf_M_77 hc d_M_find_142 ?_
            refine x_iload hE d_M_find_145 5 rfl ?_
            refine x_iload hE d_M_find_147 0 rfl ?_
            refine x_iast hc rfl rfl (by omega) (by decide) d_M_find_149 ?_
            refine x_iinc 5 (nI (_ + 1)) [(4, _), (7, _), (0, _), (1, _), (2, _), (3, _), (5, _), (6, _)] hE d_M_find_150 rfl (nI_inc _) (by decide) rfl ?_
            refine x_iinc 7 (nI (_ + 1)) [(6, _), (4, _), (7, _), (0, _), (1, _), (2, _), (3, _), (5, _)] hE d_M_find_153 rfl (nI_inc _) (by decide) rfl ?_
            refine x_goto hE d_M_find_156 ?_
            refine x_lv [3, 4, 5, 6, 1, 7, 0] (lv' := [(0, _), (1, _), (2, _), (3, _), (4, _), (5, _), (6, _)]) rfl ?_
            refine ih (d + 1) _ s0 x k _ (by omega) hx (by rw [am_exp, ← hs, htry]) ?_ hI2 (by show k < s.2.1 + 1; omega) ?_ next
            · show am_set s.2.2.1 t (some x) x ≠ none
              rw [am_set_n (fun e => hne (by rw [e]; exact hfr))]
              exact hne
            · show am_set s.1 s.2.1 t k = x
              rw [am_set_n (by omega)]
              exact hq
          have skip2 : (s.2.2.1 t = none → am_free W Av b t = false) → xk_X K (xk_vw (xm G)) τ 153 [(7, .int (nI t)), (0, .ref (xk_wA (xm G) 0)), (1, .int (nI a)), (2, .int (nI b)), (3, .int (nI av)), (4, .int (nI s.2.1)), (5, .int (nI k)), (6, .int (nI d))] [] := by
            intro hz
            refine skip ?_ _
            unfold am_try
            rw [hbs]
            simp only []
            rw [if_neg]
            intro z
            rw [hz z.1] at z
            cases z.2
          show xk_X K _ τ 85 [(7, .int (nI t)), (0, _), (1, _), (2, _), (3, _), (4, _), (5, _), (6, _)] [.int (nI t)]
          first | refine xn_if_lt hE d_M_find_85 (fun h2 => ?_) (fun h2 => ?_) | refine x_if_lt hE d_M_find_85 (fun h2 => ?_) (fun h2 => ?_)
          · exact absurd h2 not_false
          · skip
            refine x_aload_n hE d_M_find_88 1 rfl ?_
            refine gf_M_80 hc d_M_find_89 ?_
            refine x_iload hE d_M_find_92 0 rfl ?_
            refine x_iald hc rfl rfl (by omega) (by decide) d_M_find_94 (hI.2.1 t ht) ?_
            cases hfr : s.2.2.1 t with
            | some y =>
              have hy := (hI.1.2.2.2 t y hfr).2.1
              show xk_X K _ τ 95 _ [.int (nI y)]
              first | refine xn_if_ge hE d_M_find_95 (fun h3 => ?_) (fun h3 => ?_) | refine x_if_ge hE d_M_find_95 (fun h3 => ?_) (fun h3 => ?_)
              · exact skip2 (fun q => by rw [hfr] at q; cases q)
              · exact absurd h3 not_false
            | none =>
              refine x_if_ge hE d_M_find_95 (fun h3 => ?_) (fun h3 => ?_)
              · exact absurd h3 (by decide)
              · skip
                refine x_aload_n hE d_M_find_98 1 rfl ?_
                refine gf_M_7 hc d_M_find_99 ?_
                refine x_iload hE d_M_find_102 0 rfl ?_
                refine x_zald hc rfl rfl (by omega) (by decide) d_M_find_104 (hWt t ht) ?_
                cases hw : W t with
                | true =>
                  first | refine xn_if_ne hE d_M_find_105 (fun h4 => ?_) (fun h4 => ?_) | refine x_if_ne hE d_M_find_105 (fun h4 => ?_) (fun h4 => ?_)
                  · exact skip2 (fun _ => by simp [am_free, hw])
                  · exact absurd h4 (by decide)
                | false =>
                  first | refine xn_if_ne hE d_M_find_105 (fun h4 => ?_) (fun h4 => ?_) | refine x_if_ne hE d_M_find_105 (fun h4 => ?_) (fun h4 => ?_)
                  · exact absurd rfl h4
                  · skip
                    refine x_iload hE d_M_find_108 0 rfl ?_
                    refine x_iload_n hE d_M_find_110 3 rfl ?_
                    first | refine xn_icmp_eq hE d_M_find_111 (fun h5 => ?_) (fun h5 => ?_) | refine x_icmp_eq hE d_M_find_111 (fun h5 => ?_) (fun h5 => ?_)
                    · exact new hfr (by unfold am_free; rw [hw]; simp [h5])
                    · skip
                      refine x_iload_n hE d_M_find_114 4 rfl ?_
                      first | refine xn_if_eq hE d_M_find_115 (fun h6 => ?_) (fun h6 => ?_) | refine x_if_eq hE d_M_find_115 (fun h6 => ?_) (fun h6 => ?_)
                      · exact new hfr (by simp [am_free, hw, hAv, h6])
                      · skip
                        refine x_aload_n hE d_M_find_118 1 rfl ?_
                        refine x_iload hE d_M_find_119 0 rfl ?_
                        refine ca_M_101 hc d_M_find_121 (k_M_isTaken hn hplt hok ht) (fun r τ hq => ?_)
                        obtain ⟨rfl, rfl⟩ := hq
                        have hav1 : av = 1 := by omega
                        cases htk : am_taken P t n with
                        | true =>
                          first | refine xn_if_ne hE d_M_find_124 (fun h7 => ?_) (fun h7 => ?_) | refine x_if_ne hE d_M_find_124 (fun h7 => ?_) (fun h7 => ?_)
                          · exact skip2 (fun _ => by simp [am_free, hAv, hav1, htk, h5])
                          · exact absurd h7 (by decide)
                        | false =>
                          first | refine xn_if_ne hE d_M_find_124 (fun h7 => ?_) (fun h7 => ?_) | refine x_if_ne hE d_M_find_124 (fun h7 => ?_) (fun h7 => ?_)
                          · exact absurd rfl h7
                          · exact new hfr (by simp [am_free, hw, hAv, htk])
  have outer : ∀ (f k : Nat) (s : am_B) (τ : xk_St), k + f = 64 → xm_I a σ s τ → am_bfs (am_free W Av b) b f k s = am_end (am_free W Av b) a b → xk_X K (xk_vw (xm G)) τ 44 [(0, .ref (xk_wA (xm G) 0)), (1, .int (nI a)), (2, .int (nI b)), (3, .int (nI av)), (4, .int (nI s.2.1)), (5, .int (nI k))] [] := by
    intro f
    induction f with
    | zero =>
      intro k s τ hk hI he
      have hmet := am_inv_met hI.1
      refine x_iload hE d_M_find_44 5 rfl ?_
      refine x_iload hE d_M_find_46 4 rfl ?_
      first | refine xn_icmp_ge hE d_M_find_48 (fun h => ?_) (fun h => ?_) | refine x_icmp_ge hE d_M_find_48 (fun h => ?_) (fun h => ?_)
      · exact last s τ _ hI he
      · exact absurd h (by omega)
    | succ f ih =>
      intro k s τ hk hI he
      have hmet := am_inv_met hI.1
      refine x_iload hE d_M_find_44 5 rfl ?_
      refine x_iload hE d_M_find_46 4 rfl ?_
      first | refine xn_icmp_ge hE d_M_find_48 (fun h1 => ?_) (fun h1 => ?_) | refine x_icmp_ge hE d_M_find_48 (fun h1 => ?_) (fun h1 => ?_)
      · refine last s τ _ hI ?_
        rw [am_bfs, if_neg (by omega)] at he
        exact he
      · skip
        refine x_aload_n hE d_M_find_51 0 rfl ?_
        refine gf_M_80 hc d_M_find_52 ?_
        refine x_iload_n hE d_M_find_55 2 rfl ?_
        refine x_iald hc rfl rfl (by omega) (by decide) d_M_find_56 (hI.2.1 b hb) ?_
        cases hfb : s.2.2.1 b with
        | some y =>
          have hy := (hI.1.2.2.2 b y hfb).2.1
          show xk_X K _ τ 57 _ [.int (nI y)]
          first | refine xn_if_ge hE d_M_find_57 (fun h2 => ?_) (fun h2 => ?_) | refine x_if_ge hE d_M_find_57 (fun h2 => ?_) (fun h2 => ?_)
          · refine last s τ _ hI ?_
            rw [am_bfs, if_neg (fun z => by rw [hfb] at z; cases z.2)] at he
            exact he
          · exact absurd h2 not_false
        | none =>
          refine x_if_ge hE d_M_find_57 (fun h2 => ?_) (fun h2 => ?_)
          · exact absurd h2 (by decide)
          · skip
            obtain ⟨g1, g2⟩ := hI.1.2.2.1 k h1
            refine x_iconst (nI 0) hE d_M_find_60 (by decide) ?_
            refine x_istore [(6, _), (0, _), (1, _), (2, _), (3, _), (4, _), (5, _)] hE d_M_find_61 (by decide) rfl ?_
            refine x_lv [1, 2, 3, 4, 5, 6, 0] (lv' := [(0, _), (1, _), (2, _), (3, _), (4, _), (5, _), (6, _)]) rfl ?_
            refine inner 4 0 s s (s.1 k) k τ rfl g1 rfl g2 hI h1 rfl (fun τ2 hI2 => ?_)
            refine ih (k + 1) _ τ2 (by omega) hI2 ?_
            rw [am_bfs, if_pos ⟨h1, hfb⟩] at he
            exact he
  have fill : ∀ (m t : Nat) (τ : xk_St), t + m = 64 → (∀ q, q < t → τ.1 24 q = -1) → xm_F σ τ → xk_X K (xk_vw (xm G)) τ 3 [(0, .ref (xk_wA (xm G) 0)), (1, .int (nI a)), (2, .int (nI b)), (3, .int (nI av)), (4, .int (nI t))] [] := by
    intro m
    induction m with
    | zero =>
      intro t τ ht h24 hF
      refine x_iload hE d_M_find_3 4 rfl ?_
      refine x_bipush (nI 64) hE d_M_find_5 (by decide) ?_
      first | refine xn_icmp_ge hE d_M_find_7 (fun h => ?_) (fun h => ?_) | refine x_icmp_ge hE d_M_find_7 (fun h => ?_) (fun h => ?_)
      · skip
        refine x_aload_n hE d_M_find_24 0 rfl ?_
        refine gf_M_80 hc d_M_find_25 ?_
        refine x_iload_n hE d_M_find_28 1 rfl ?_
        refine x_iload_n hE d_M_find_29 1 rfl ?_
        refine x_iast hc rfl rfl (by omega) (by decide) d_M_find_30 ?_
        refine x_aload_n hE d_M_find_31 0 rfl ?_
        refine gf_M_77 hc d_M_find_32 ?_
        refine x_iconst (nI 0) hE d_M_find_35 (by decide) ?_
        refine x_iload_n hE d_M_find_36 1 rfl ?_
        refine x_iast hc rfl rfl (by omega) (by decide) d_M_find_37 ?_
        refine x_iconst (nI 1) hE d_M_find_38 (by decide) ?_
        refine x_istore [(4, _), (0, _), (1, _), (2, _), (3, _)] hE d_M_find_39 (by decide) rfl ?_
        refine x_iconst (nI 0) hE d_M_find_41 (by decide) ?_
        refine x_istore [(5, _), (4, _), (0, _), (1, _), (2, _), (3, _)] hE d_M_find_42 (by decide) rfl ?_
        refine x_lv [2, 3, 4, 5, 1, 0] (lv' := [(0, _), (1, _), (2, _), (3, _), (4, _), (5, _)]) rfl ?_
        refine outer 64 0 (am_ini a) _ rfl ⟨am_inv_ini ha, fun q hq => ?_, fun i hi => ?_, hF.1, fun k k1 k2 k3 => ?_⟩ rfl
        · rw [xk_up_o (by decide), xk_up_s]
          show _ = xc_o (if q = a then some a else none)
          by_cases e : q = a
          · rw [if_pos e, if_pos e]; rfl
          · rw [if_neg e, if_neg e, h24 q (by omega)]; rfl
        · have hi : i < 1 := hi
          rw [show i = 0 by omega, xk_up_s, if_pos rfl]
          rfl
        · rw [xk_up_o k1, xk_up_o k2]; exact hF.2 k k1 k2 k3
      · exact absurd h (by omega)
    | succ m ih =>
      intro t τ ht h24 hF
      refine x_iload hE d_M_find_3 4 rfl ?_
      refine x_bipush (nI 64) hE d_M_find_5 (by decide) ?_
      first | refine xn_icmp_ge hE d_M_find_7 (fun h => ?_) (fun h => ?_) | refine x_icmp_ge hE d_M_find_7 (fun h => ?_) (fun h => ?_)
      · exact absurd h (by omega)
      · skip
        refine x_aload_n hE d_M_find_10 0 rfl ?_
        refine gf_M_80 hc d_M_find_11 ?_
        refine x_iload hE d_M_find_14 4 rfl ?_
        refine x_iconst (-1) hE d_M_find_16 (by decide) ?_
        refine x_iast hc rfl rfl (by omega) (by decide) d_M_find_17 ?_
        refine x_iinc 4 (nI (_ + 1)) [(4, _), (0, _), (1, _), (2, _), (3, _)] hE d_M_find_18 rfl (nI_inc _) (by decide) rfl ?_
        refine x_goto hE d_M_find_21 ?_
        refine x_lv [1, 2, 3, 4, 0] (lv' := [(0, _), (1, _), (2, _), (3, _), (4, _)]) rfl ?_
        refine ih (t + 1) _ (by omega) (fun q hq => ?_) ⟨hF.1, fun k k1 k2 k3 => by rw [xk_up_o k2]; exact hF.2 k k1 k2 k3⟩
        rw [xk_up_s]
        by_cases e : q = t
        · rw [if_pos e]
        · rw [if_neg e]; exact h24 q (by omega)
  exact fill 64 0 σ rfl (fun q hq => absurd hq (Nat.not_lt_zero _)) ⟨rfl, fun _ _ _ _ => rfl⟩
end XM2
