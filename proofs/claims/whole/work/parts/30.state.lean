/-! THE WHOLE STATE, and what each call does to it -/
/-- walls; how many units; their sides and starts; begun; played; numbers; how many entries, and each; the units -/
abbrev am_S : Type := (Nat → Bool) × Nat × (Nat → Nat) × (Nat → Nat) × Bool × Nat × (Nat → Int32) × Nat × am_L × am_P
abbrev aW (S : am_S) : Nat → Bool := S.1
abbrev aN (S : am_S) : Nat := S.2.1
abbrev aSd (S : am_S) : Nat → Nat := S.2.2.1
abbrev aSt (S : am_S) : Nat → Nat := S.2.2.2.1
abbrev aBg (S : am_S) : Bool := S.2.2.2.2.1
abbrev aPl (S : am_S) : Nat := S.2.2.2.2.2.1
abbrev aNm (S : am_S) : Nat → Int32 := S.2.2.2.2.2.2.1
abbrev aCn (S : am_S) : Nat := S.2.2.2.2.2.2.2.1
abbrev aL (S : am_S) : am_L := S.2.2.2.2.2.2.2.2.1
abbrev aP (S : am_S) : am_P := S.2.2.2.2.2.2.2.2.2
def am_okS (S : am_S) : Prop := aN S ≤ 8 ∧ (∀ u, u < aN S → aSd S u < 2 ∧ aSt S u < 64) ∧ aPl S ≤ 200 ∧ am_okL (aN S) (aCn S) (aL S) ∧ am_okP (aN S) (aP S)
def am_new : am_S := (fun _ => false, 0, fun _ => 0, fun _ => 0, false, 0, fun _ => 0, 0, fun _ => (0, 0, 0, 0), fun _ => (0, 0, 0, 0, 0, []))
def am_wall (S : am_S) (t b : Int32) : Int32 × am_S :=
  if aBg S = true ∨ ¬ am_has 64 t ∨ am_taken (aP S) t.toNatClampNeg (aN S) = true then (nI 0, S)
  else (nI 1, (am_set (aW S) t.toNatClampNeg (decide (b ≠ 0)), S.2))
def am_unit (S : am_S) (s t : Int32) : Int32 × am_S :=
  if aBg S = true then (-3, S)
  else if ¬ am_has 2 s ∨ ¬ am_has 64 t ∨ aW S t.toNatClampNeg = true ∨ am_taken (aP S) t.toNatClampNeg (aN S) = true then (-1, S)
  else if aN S = 8 then (-2, S)
  else (nI (aN S), (aW S, aN S + 1, am_set (aSd S) (aN S) s.toNatClampNeg, am_set (aSt S) (aN S) t.toNatClampNeg, aBg S, aPl S, aNm S, aCn S, aL S, am_set (aP S) (aN S) (20, t.toNatClampNeg, 0, 0, 0, [])))
def am_begin (S : am_S) : Int32 × am_S := if aBg S = true then (-3, S) else (nI (aN S), (aW S, aN S, aSd S, aSt S, true, S.2.2.2.2.2))
abbrev am_kind (n : Nat) (u k m : Int32) : Prop := k = nI 0 ∨ (k = nI 1 ∧ am_has 64 m) ∨ (k = nI 2 ∧ am_has n m ∧ ¬ m = u)
def am_command (S : am_S) (t u k m : Int32) : Int32 × am_S :=
  if ¬ (am_has (aN S) u ∧ am_kind (aN S) u k m) then (-1, S)
  else if aBg S = false ∨ t < nI (aPl S) then (-3, S)
  else if aCn S = 24 then (-2, S)
  else (nI (aCn S), (aW S, aN S, aSd S, aSt S, aBg S, aPl S, aNm S, aCn S + 1, am_set (aL S) (aCn S) (t, u.toNatClampNeg, k.toNatClampNeg, if k.toNatClampNeg = 0 then 0 else m.toNatClampNeg), aP S))
def am_forget (S : am_S) (k : Int32) : Int32 × am_S :=
  if ¬ am_has (aCn S) k then (nI 0, S) else (nI 1, (aW S, aN S, aSd S, aSt S, aBg S, aPl S, aNm S, aCn S - 1, am_del (aL S) k.toNatClampNeg, aP S))
def am_one (S : am_S) : am_S := (aW S, aN S, aSd S, aSt S, aBg S, aPl S + 1, am_set (aNm S) (aPl S) (am_num (aW S) (aN S) (aCn S) (aL S) (aPl S) (aP S)), aCn S, aL S, am_tick (aW S) (aN S) (aCn S) (aL S) (aPl S) (aP S))
def am_runs : Nat → am_S → am_S
  | 0, S => S
  | m + 1, S => am_runs m (am_one S)
def am_run (S : am_S) (m : Int32) : Int32 × am_S :=
  if m < nI 1 ∨ nI 20 < m then (-1, S)
  else if aBg S = false then (-3, S)
  else if 200 < aPl S + m.toNatClampNeg then (-2, S)
  else (nI (aPl S + m.toNatClampNeg), am_runs m.toNatClampNeg S)
def am_rp (S : am_S) : Nat → Nat → am_P → Int32
  | 0, _, _ => -1
  | f + 1, t, P => if am_num (aW S) (aN S) (aCn S) (aL S) t P = aNm S t then am_rp S f (t + 1) (am_tick (aW S) (aN S) (aCn S) (aL S) t P) else nI t
def am_replay (S : am_S) : Int32 := am_rp S (aPl S) 0 (fun u => (20, aSt S u, 0, 0, 0, []))
def am_number (S : am_S) (t : Int32) : Int32 := if am_has (aPl S) t then aNm S t.toNatClampNeg else nI 0
def am_tile (S : am_S) (u : Int32) : Int32 := if am_has (aN S) u ∧ 0 < am_pts (aP S u.toNatClampNeg) then nI (am_til (aP S u.toNatClampNeg)) else -1
def am_points (S : am_S) (u : Int32) : Int32 := if am_has (aN S) u then nI (am_pts (aP S u.toNatClampNeg)) else -1
def am_order (S : am_S) (u : Int32) : Int32 := if am_has (aN S) u then nI (am_ord (aP S u.toNatClampNeg) + 4 * am_aim (aP S u.toNatClampNeg)) else -1
def am_path (S : am_S) (u i : Int32) : Int32 := if am_has (aN S) u ∧ am_has (am_pth (aP S u.toNatClampNeg)).length i then nI ((am_pth (aP S u.toNatClampNeg)).getD i.toNatClampNeg 0) else -1
def am_steps (S : am_S) (a b : Int32) : Int32 :=
  if ¬ am_has 64 a ∨ ¬ am_has 64 b ∨ aW S a.toNatClampNeg = true ∨ aW S b.toNatClampNeg = true then -1
  else xc_dp (am_end (am_free (aW S) (fun _ => false) b.toNatClampNeg) a.toNatClampNeg b.toNatClampNeg) b.toNatClampNeg
def am_winner (S : am_S) : Int32 :=
  if am_liv (aSd S) (aP S) 0 (aN S) = true ∧ am_liv (aSd S) (aP S) 1 (aN S) = true then nI 2
  else if am_liv (aSd S) (aP S) 0 (aN S) = true then nI 0
  else if am_liv (aSd S) (aP S) 1 (aN S) = true then nI 1 else nI 3
theorem am_ok_new : am_okS am_new := ⟨by decide, fun u hu => absurd hu (Nat.not_lt_zero _), by decide, ⟨by decide, fun e he => absurd he (Nat.not_lt_zero _)⟩, fun u hu => absurd hu (Nat.not_lt_zero _)⟩
theorem am_ok_wall {S : am_S} (h : am_okS S) (t b : Int32) : am_okS (am_wall S t b).2 := by
  unfold am_wall
  split
  · exact h
  · exact h
theorem am_ok_more {n : Nat} {x : am_U} (h : am_ok n x) : am_ok (n + 1) x := ⟨h.1, h.2.1, h.2.2.1, h.2.2.2.1, fun e => Nat.lt_succ_of_lt (h.2.2.2.2.1 e), h.2.2.2.2.2⟩
theorem am_ok_unit {S : am_S} (h : am_okS S) (s t : Int32) : am_okS (am_unit S s t).2 := by
  unfold am_unit
  split
  · exact h
  · split
    · exact h
    · rename_i h2
      split
      · exact h
      · rename_i h3
        have hs : am_has 2 s := Classical.byContradiction (fun q => h2 (Or.inl q))
        have ht : am_has 64 t := Classical.byContradiction (fun q => h2 (Or.inr (Or.inl q)))
        obtain ⟨js, hjs, rfl⟩ := am_has_of (by decide) hs
        obtain ⟨jt, hjt, rfl⟩ := am_has_of (by decide) ht
        rw [nI_clamp (by omega), nI_clamp (by omega)]
        obtain ⟨g1, g2, g3, ⟨g4, g5⟩, g6⟩ := h
        refine ⟨by show aN S + 1 ≤ 8; omega, fun u hu => ?_, g3, ⟨g4, fun e he => ?_⟩, fun u hu => ?_⟩
        · have hu : u < aN S + 1 := hu
          show am_set (aSd S) (aN S) js u < 2 ∧ am_set (aSt S) (aN S) jt u < 64
          by_cases e : u = aN S
          · subst e; rw [am_set_s, am_set_s]; exact ⟨hjs, hjt⟩
          · rw [am_set_n e, am_set_n e]; exact g2 u (by omega)
        · obtain ⟨k1, k2, k3, k4⟩ := g5 e he
          exact ⟨Nat.lt_succ_of_lt k1, k2, k3, fun z => Nat.lt_succ_of_lt (k4 z)⟩
        · have hu : u < aN S + 1 := hu
          show am_ok (aN S + 1) (am_set (aP S) (aN S) (20, jt, 0, 0, 0, []) u)
          by_cases e : u = aN S
          · subst e
            rw [am_set_s]
            exact ⟨Nat.le_refl 20, hjt, Nat.zero_le _, (by decide : 0 < 64), fun e => absurd e (show ¬ (0 : Nat) = 2 by decide), (by decide : 0 < 3), Nat.zero_le _, fun t ht => absurd ht List.not_mem_nil, fun e => absurd e (show ¬ (20 : Nat) = 0 by decide)⟩
          · rw [am_set_n e]; exact am_ok_more (g6 u (by omega))
theorem am_ok_begin {S : am_S} (h : am_okS S) : am_okS (am_begin S).2 := by
  unfold am_begin
  split
  · exact h
  · exact h
theorem am_kind_of {n : Nat} {u k m : Int32} (hn : n ≤ 8) (h : am_kind n u k m) : ∃ kd mm : Nat, kd ≤ 2 ∧ k = nI kd ∧ (kd ≠ 0 → m = nI mm) ∧ mm < 64 ∧ (kd = 2 → mm < n) := by
  rcases h with rfl | ⟨rfl, h⟩ | ⟨rfl, h, -⟩
  · exact ⟨0, 0, by decide, rfl, fun e => absurd rfl e, by decide, fun e => absurd e (by decide)⟩
  · obtain ⟨j, hj, rfl⟩ := am_has_of (by decide) h
    exact ⟨1, j, by decide, rfl, fun _ => rfl, hj, fun e => absurd e (by decide)⟩
  · obtain ⟨j, hj, rfl⟩ := am_has_of (by omega) h
    exact ⟨2, j, by decide, rfl, fun _ => rfl, by omega, fun _ => hj⟩
theorem am_ok_command {S : am_S} (h : am_okS S) (t u k m : Int32) : am_okS (am_command S t u k m).2 := by
  unfold am_command
  split
  · exact h
  · rename_i h1
    split
    · exact h
    · split
      · exact h
      · rename_i h3
        have h1 := Classical.not_not.mp h1
        obtain ⟨g1, g2, g3, ⟨g4, g5⟩, g6⟩ := h
        obtain ⟨ju, hju, rfl⟩ := am_has_of (by omega) h1.1
        obtain ⟨kd, mm, k1, rfl, k3, k4, k5⟩ := am_kind_of g1 h1.2
        rw [nI_clamp (by omega), nI_clamp (by omega)]
        refine ⟨g1, g2, g3, ⟨by show aCn S + 1 ≤ 24; omega, fun e he => ?_⟩, g6⟩
        have he : e < aCn S + 1 := he
        show (am_set (aL S) (aCn S) _ e).2.1 < aN S ∧ (am_set (aL S) (aCn S) _ e).2.2.1 ≤ 2 ∧ (am_set (aL S) (aCn S) _ e).2.2.2 < 64 ∧ ((am_set (aL S) (aCn S) _ e).2.2.1 = 2 → (am_set (aL S) (aCn S) _ e).2.2.2 < aN S)
        by_cases e1 : e = aCn S
        · subst e1
          rw [am_set_s]
          by_cases e2 : kd = 0
          · subst e2
            rw [if_pos rfl]
            exact ⟨hju, Nat.zero_le _, (by decide : 0 < 64), fun z => absurd z (show ¬ (0 : Nat) = 2 by decide)⟩
          · rw [if_neg e2, k3 e2, nI_clamp (by omega)]
            exact ⟨hju, k1, k4, k5⟩
        · rw [am_set_n e1]
          exact g5 e (by omega)
theorem am_ok_forget {S : am_S} (h : am_okS S) (k : Int32) : am_okS (am_forget S k).2 := by
  unfold am_forget
  split
  · exact h
  · rename_i h1
    have h1 := Classical.not_not.mp h1
    obtain ⟨g1, g2, g3, ⟨g4, g5⟩, g6⟩ := h
    obtain ⟨j, hj, rfl⟩ := am_has_of (by omega) h1
    rw [nI_clamp (by omega)]
    refine ⟨g1, g2, g3, ⟨by show aCn S - 1 ≤ 24; omega, fun e he => ?_⟩, g6⟩
    have he : e < aCn S - 1 := he
    show (am_del (aL S) j e).2.1 < aN S ∧ (am_del (aL S) j e).2.2.1 ≤ 2 ∧ (am_del (aL S) j e).2.2.2 < 64 ∧ ((am_del (aL S) j e).2.2.1 = 2 → (am_del (aL S) j e).2.2.2 < aN S)
    unfold am_del
    split
    · exact g5 e (by omega)
    · exact g5 (e + 1) (by omega)
theorem am_ok_one {S : am_S} (h : am_okS S) (hp : aPl S < 200) : am_okS (am_one S) := by
  obtain ⟨g1, g2, g3, g4, g6⟩ := h
  exact ⟨g1, g2, (show aPl S + 1 ≤ 200 by omega), g4, am_okP_tick g6 g4⟩
theorem am_ok_runs : ∀ (m : Nat) {S : am_S}, am_okS S → aPl S + m ≤ 200 → am_okS (am_runs m S)
  | 0, _, h, _ => h
  | m + 1, S, h, hp => am_ok_runs m (am_ok_one h (by omega)) (by show aPl S + 1 + m ≤ 200; omega)
theorem am_runs_pl : ∀ (m : Nat) (S : am_S), aPl (am_runs m S) = aPl S + m
  | 0, _ => rfl
  | m + 1, S => by
    rw [am_runs, am_runs_pl m]
    show aPl S + 1 + m = aPl S + (m + 1)
    omega
theorem am_ok_run {S : am_S} (h : am_okS S) (m : Int32) : am_okS (am_run S m).2 := by
  unfold am_run
  split
  · exact h
  · split
    · exact h
    · split
      · exact h
      · exact am_ok_runs _ h (by omega)
