/-! GROUND: the way that the search found -/
section XLp
variable {G : xk_D} {σ : xk_St}
theorem k_G_layPath {a b kr : Nat} {s : am_B} (hs : am_inv a s) (hR : xs_R a s σ) (hb : b < 64) (hfb : s.2.2.1 b ≠ none) (hkr : 33 ≤ kr) (hsh : xc_S[kr]? = some (.inl (0, 64))) : xk_M (xc G) 0 y_G_layPath [.ref (xk_wA (xc G) 1), .int (nI b), .ref (xk_wA (xc G) kr)] σ (xk_pv (fun τ => τ.2 = σ.2 ∧ (∀ j, j ≠ kr → τ.1 j = σ.1 j) ∧ ∀ i (h : i < (am_chain s.2.2.1 (s.2.2.2 b) b).length), τ.1 kr i = nI ((am_chain s.2.2.1 (s.2.2.2 b) b)[i]))) := by
  have hmet := am_inv_met hs
  refine xk_enter (by decide) (Nat.le_of_ble_eq_true rfl) (fun K hE hc => ?_)
  show xk_X K _ _ 0 [(0, _), (1, _), (2, _)] []
  refine x_iload_n hE d_G_layPath_0 1 rfl ?_
  refine x_istore_n [(3, _), (0, _), (1, _), (2, _)] hE d_G_layPath_1 rfl (by decide) rfl ?_
  refine x_aload_n hE d_G_layPath_2 1 rfl ?_
  refine gf_G_18 hc d_G_layPath_3 ?_
  refine x_iload_n hE d_G_layPath_6 2 rfl ?_
  refine x_iald hc rfl rfl (by omega) (by decide) d_G_layPath_7 (show _ = nI (s.2.2.2 b) by rw [hR.1 b hb, xc_dp_s hfb]) ?_
  refine x_iconst (nI 1) hE d_G_layPath_8 (by decide) ?_
  refine x_isub hE d_G_layPath_9 ?_
  refine x_istore [(4, _), (3, _), (0, _), (1, _), (2, _)] hE d_G_layPath_10 (by decide) rfl ?_
  refine x_lv [2, 3, 4, 1, 0] (lv' := [(0, _), (1, _), (2, _), (3, _), (4, _)]) rfl ?_
  have loop : ∀ (m t : Nat) (suf : List Nat) (τ : xk_St), s.2.2.1 t ≠ none → s.2.2.2 t = m → am_chain s.2.2.1 (s.2.2.2 b) b = am_chain s.2.2.1 m t ++ suf → τ.2 = σ.2 → (∀ j, j ≠ kr → τ.1 j = σ.1 j) → (∀ i (h : i < suf.length), τ.1 kr (m + i) = nI (suf[i])) → xk_X K (xk_vw (xc G)) τ 12 [(0, .ref (xk_wA (xc G) 1)), (1, .int (nI b)), (2, .ref (xk_wA (xc G) kr)), (3, .int (nI t)), (4, .int (nI m + Int32.ofInt (-1)))] [] := by
    intro m
    induction m with
    | zero =>
      intro t suf τ ht hm hc1 h2 ho hw
      refine x_iload hE d_G_layPath_12 4 rfl ?_
      refine x_if_lt hE d_G_layPath_14 (fun h => ?_) (fun h => ?_)
      · skip
        refine x_ret hc d_G_layPath_35 ⟨h2, ho, fun i hi => ?_⟩
        have hi2 : i < suf.length := by
          rw [hc1] at hi
          simpa [am_chain] using hi
        have h3 := hw i hi2
        rw [Nat.zero_add] at h3
        rw [h3]
        congr 1
        simp [hc1, am_chain]
      · exact absurd (by decide) h
    | succ m ih =>
      intro t suf τ ht hm hc1 h2 ho hw
      obtain ⟨x, hx⟩ := Option.ne_none_iff_exists'.mp ht
      obtain ⟨g1, g2, g3, g4, g5⟩ := hs.2.2.2 t x hx
      have hta : t ≠ a ∧ s.2.2.2 x = m := by
        rcases g5 with ⟨-, -, g6⟩ | ⟨g6, g7⟩
        · omega
        · exact ⟨g6, by omega⟩
      have e : nI (m + 1) + Int32.ofInt (-1) = nI m := nI_dec (m + 1) (by omega)
      rw [e]
      refine x_iload hE d_G_layPath_12 4 rfl ?_
      first | refine xn_if_lt hE d_G_layPath_14 (fun h => ?_) (fun h => ?_) | refine x_if_lt hE d_G_layPath_14 (fun h => ?_) (fun h => ?_)
      · exact absurd h (by first | exact not_false | exact nI_pos (by omega))
      · skip
        refine x_aload_n hE d_G_layPath_17 2 rfl ?_
        refine x_iload hE d_G_layPath_18 4 rfl ?_
        refine x_iload_n hE d_G_layPath_20 3 rfl ?_
        refine x_iast hc hsh rfl (by omega) (by decide) d_G_layPath_21 ?_
        refine x_aload_n hE d_G_layPath_22 0 rfl ?_
        refine gf_G_15 hc d_G_layPath_23 ?_
        refine x_iload_n hE d_G_layPath_26 3 rfl ?_
        refine x_iald hc rfl rfl (by omega) (by decide) d_G_layPath_27 (show _ = nI x by rw [xk_up_o (show 3 ≠ kr by omega), ho 3 (by omega)]; exact hR.2 t x hta.1 hx) ?_
        refine x_istore_n [(3, _), (0, _), (1, _), (2, _), (4, _)] hE d_G_layPath_28 rfl (by decide) rfl ?_
        refine x_iinc 4 _ [(4, _), (3, _), (0, _), (1, _), (2, _)] hE d_G_layPath_29 rfl rfl (by decide) rfl ?_
        refine x_goto hE d_G_layPath_32 ?_
        refine x_lv [2, 3, 4, 1, 0] (lv' := [(0, _), (1, _), (2, _), (3, _), (4, _)]) rfl ?_
        refine ih x (t :: suf) _ g3 hta.2 ?_ h2 (fun j hj => by rw [xk_up_o hj]; exact ho j hj) (fun i hi => ?_)
        · rw [hc1, am_chain, hx]
          simp
        · rw [xk_up_s]
          cases i with
          | zero => simp
          | succ i =>
            rw [if_neg (by omega)]
            have h3 := hw i (by simpa using hi)
            rw [show m + 1 + i = m + (i + 1) by omega] at h3
            rw [h3]
            rfl
  have e0 : nI (s.2.2.2 b) - nI 1 = nI (s.2.2.2 b) + Int32.ofInt (-1) := by rw [Int32.sub_eq_add_neg]; rfl
  rw [e0]
  exact loop (s.2.2.2 b) b [] σ hfb rfl (by simp) rfl (fun _ _ => rfl) (fun i hi => absurd hi (Nat.not_lt_zero _))
end XLp
