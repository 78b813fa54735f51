/-! numbers and bits -/
def xb_t (x : Int64) (j : Nat) : Bool := x.toBitVec.getLsbD j
def xb_b (t : Int32) : Int64 := (1 : Int64) <<< (t.toInt64 &&& 63)
theorem xb_or (x y : Int64) (j : Nat) : xb_t (x ||| y) j = (xb_t x j || xb_t y j) := by simp [xb_t, Int64.toBitVec_or]
theorem xb_and (x y : Int64) (j : Nat) : xb_t (x &&& y) j = (xb_t x j && xb_t y j) := by simp [xb_t, Int64.toBitVec_and]
theorem xb_m1 : ∀ j, j < 64 → xb_t (-1) j = true := by decide +kernel
theorem xb_not (x : Int64) {j : Nat} (h : j < 64) : xb_t (x ^^^ (-1)) j = !xb_t x j := by
  have h1 : xb_t (x ^^^ (-1)) j = (xb_t x j ^^ xb_t (-1) j) := by
    show (x ^^^ (-1)).toBitVec.getLsbD j = _
    rw [Int64.toBitVec_xor, BitVec.getLsbD_xor]
    rfl
  rw [h1, xb_m1 j h]
  simp
theorem xb_bit : ∀ j, j < 64 → ∀ i, i < 64 → xb_t (xb_b (nI j)) i = decide (i = j) := by decide +kernel
theorem xb_zero (j : Nat) : xb_t 0 j = false := by simp [xb_t]
theorem xb_cmp0 (x : Int64) : lg_cmp x 0 = 0 ↔ x = 0 := by
  unfold lg_cmp
  constructor
  · intro h
    split at h
    · exact absurd h (by decide)
    · split at h
      · assumption
      · exact absurd h (by decide)
  · intro h
    rw [h]
    decide
theorem xb_test {x : Int64} {j : Nat} (hj : j < 64) : lg_cmp (x &&& xb_b (nI j)) 0 = 0 ↔ xb_t x j = false := by
  rw [xb_cmp0]
  constructor
  · intro h
    have h2 : xb_t (x &&& xb_b (nI j)) j = xb_t 0 j := by rw [h]
    rw [xb_and, xb_bit j hj j hj, xb_zero] at h2
    simpa using h2
  · intro h
    apply Int64.toBitVec_inj.mp
    apply BitVec.eq_of_getLsbD_eq
    intro i hi
    have h3 : xb_t (x &&& xb_b (nI j)) i = false := by
      rw [xb_and, xb_bit j hj i hi]
      by_cases e : i = j
      · subst e; simp [h]
      · simp [e]
    show xb_t _ i = xb_t 0 i
    rw [h3, xb_zero]
/-! THE PURE MODEL: one picture for both sides -/
/-- a unit in a play: points, tile, order, aim, patience, path -/
abbrev am_U : Type := Nat × Nat × Nat × Nat × Nat × List Nat
abbrev am_P : Type := Nat → am_U
abbrev am_pts (x : am_U) : Nat := x.1
abbrev am_til (x : am_U) : Nat := x.2.1
abbrev am_ord (x : am_U) : Nat := x.2.2.1
abbrev am_aim (x : am_U) : Nat := x.2.2.2.1
abbrev am_pat (x : am_U) : Nat := x.2.2.2.2.1
abbrev am_pth (x : am_U) : List Nat := x.2.2.2.2.2
def am_set {α : Type} (f : Nat → α) (k : Nat) (v : α) : Nat → α := fun j => if j = k then v else f j
/-- is a tile taken by one of the first n -/
def am_taken (P : am_P) (t : Nat) : Nat → Bool
  | 0 => false
  | u + 1 => am_taken P t u || (decide (0 < am_pts (P u)) && decide (am_til (P u) = t))
def am_beside (t d : Nat) : Option Nat :=
  if d = 0 then (if 8 ≤ t then some (t - 8) else none)
  else if d = 1 then (if t % 8 < 7 then some (t + 1) else none)
  else if d = 2 then (if t < 56 then some (t + 8) else none)
  else (if 0 < t % 8 then some (t - 1) else none)
def am_dif (a b : Nat) : Nat := (a - b) + (b - a)
def am_dist (a b : Nat) : Nat := am_dif (a % 8) (b % 8) + am_dif (a / 8) (b / 8)
/-- a search: the row of tiles met, how many, where each was met from, in how many steps -/
abbrev am_B : Type := (Nat → Nat) × Nat × (Nat → Option Nat) × (Nat → Nat)
def am_try (free : Nat → Bool) (x d : Nat) (s : am_B) : am_B := match am_beside x d with
  | none => s
  | some t => if s.2.2.1 t = none ∧ free t = true then (am_set s.1 s.2.1 t, s.2.1 + 1, am_set s.2.2.1 t (some x), am_set s.2.2.2 t (s.2.2.2 x + 1)) else s
def am_exp (free : Nat → Bool) (x : Nat) (s : am_B) : Nat → am_B
  | 0 => s
  | d + 1 => am_try free x d (am_exp free x s d)
def am_bfs (free : Nat → Bool) (b : Nat) : Nat → Nat → am_B → am_B
  | 0, _, s => s
  | f + 1, k, s => if k < s.2.1 ∧ s.2.2.1 b = none then am_bfs free b f (k + 1) (am_exp free (s.1 k) s 4) else s
def am_ini (a : Nat) : am_B := (fun _ => a, 1, fun t => if t = a then some a else none, fun _ => 0)
def am_chain (fr : Nat → Option Nat) : Nat → Nat → List Nat
  | 0, _ => []
  | n + 1, t => am_chain fr n ((fr t).getD 0) ++ [t]
def am_end (free : Nat → Bool) (a b : Nat) : am_B := am_bfs free b 64 0 (am_ini a)
def am_find (free : Nat → Bool) (a b : Nat) : List Nat := if (am_end free a b).2.2.1 b = none then [] else am_chain (am_end free a b).2.2.1 ((am_end free a b).2.2.2 b) b
/-- what is free for a search: no wall; and, where the taken are shunned, not taken, but the goal -/
def am_free (W : Nat → Bool) (avoid : Nat → Bool) (b t : Nat) : Bool := !W t && (decide (t = b) || !avoid t)
def am_drop (x : am_U) : am_U := (am_pts x, am_til x, 0, 0, am_pat x, am_pth x)
/-- one step, or its being held up -/
def am_step (W : Nat → Bool) (n : Nat) (P : am_P) (x : am_U) (goal : Nat) : am_U := match am_pth x with
  | [] => am_drop x
  | t :: r => if am_taken P t n = false then (if am_ord x = 1 ∧ t = goal then (am_pts x, t, 0, 0, 0, r) else (am_pts x, t, am_ord x, am_aim x, 0, r))
      else if am_pat x + 1 < 3 then (am_pts x, am_til x, am_ord x, am_aim x, am_pat x + 1, am_pth x)
      else match am_find (am_free W (fun t => am_taken P t n) goal) (am_til x) goal with
        | [] => (am_pts x, am_til x, am_ord x, am_aim x, 0, am_pth x)
        | q :: z => (am_pts x, am_til x, am_ord x, am_aim x, 0, q :: z)
def am_walk (W : Nat → Bool) (n : Nat) (P : am_P) (x : am_U) (goal : Nat) : am_U :=
  if (am_pth x).getLast? = some goal then am_step W n P x goal
  else am_step W n P (am_pts x, am_til x, am_ord x, am_aim x, am_pat x, am_find (am_free W (fun _ => false) goal) (am_til x) goal) goal
def am_go (W : Nat → Bool) (n : Nat) (P : am_P) (x : am_U) : am_U :=
  if am_ord x = 2 then
    (if am_pts (P (am_aim x)) = 0 then am_drop x
     else if am_dist (am_til x) (am_til (P (am_aim x))) = 1 then (am_pts x, am_til x, am_ord x, am_aim x, am_pat x, [])
     else am_walk W n P x (am_til (P (am_aim x))))
  else (if am_aim x = am_til x ∨ W (am_aim x) = true then am_drop x else am_walk W n P x (am_aim x))
def am_moves (W : Nat → Bool) (n : Nat) (P : am_P) : Nat → am_P
  | 0 => P
  | u + 1 => let Q := am_moves W n P u
    if am_ord (Q u) = 0 then Q else am_set Q u (am_go W n Q (Q u))
/-- entries: tick, unit, kind, aim -/
abbrev am_L : Type := Nat → Int32 × Nat × Nat × Nat
def am_obey (L : am_L) (t : Int32) (P : am_P) : Nat → am_P
  | 0 => P
  | e + 1 => let Q := am_obey L t P e
    if (L e).1 = t ∧ 0 < am_pts (Q (L e).2.1) then am_set Q (L e).2.1 (am_pts (Q (L e).2.1), am_til (Q (L e).2.1), (L e).2.2.1, (L e).2.2.2, 0, []) else Q
def am_hits (P : am_P) (u : Nat) : Bool := decide (am_ord (P u) = 2) && decide (0 < am_pts (P (am_aim (P u)))) && decide (am_dist (am_til (P u)) (am_til (P (am_aim (P u)))) = 1)
def am_lost (P : am_P) : Nat → Nat → Nat
  | 0 => fun _ => 0
  | u + 1 => if am_hits P u = true then am_set (am_lost P u) (am_aim (P u)) (am_lost P u (am_aim (P u)) + 3) else am_lost P u
def am_hurt (x : am_U) (l : Nat) : am_U := if am_pts x ≤ l then (0, am_til x, 0, 0, 0, []) else (am_pts x - l, am_til x, am_ord x, am_aim x, am_pat x, am_pth x)
def am_rest (x : am_U) (l : Nat) : am_U := if 0 < am_pts x ∧ am_ord x = 0 ∧ l = 0 ∧ am_pts x < 20 then (am_pts x + 1, am_til x, am_ord x, am_aim x, am_pat x, am_pth x) else x
def am_sum (P : am_P) : Nat → Int32
  | 0 => nI 17
  | u + 1 => nI 31 * (nI 31 * am_sum P u + nI 64 * nI (am_pts (P u)) + (if am_pts (P u) = 0 then nI 0 else nI (am_til (P u)))) + nI 8 * nI (am_pat (P u)) + nI (am_ord (P u))
/-- the blows, and the rest at each fourth tick -/
def am_blow (n : Nat) (P : am_P) : am_P := fun u => if u < n then am_hurt (P u) (am_lost P n u) else P u
def am_calm (t n : Nat) (P0 P : am_P) : am_P := fun u => if u < n ∧ t % 4 = 3 then am_rest (P u) (am_lost P0 n u) else P u
/-- one tick -/
def am_tick (W : Nat → Bool) (n cnt : Nat) (L : am_L) (t : Nat) (P : am_P) : am_P :=
  let Q := am_moves W n (am_obey L (nI t) P cnt) n
  am_calm t n Q (am_blow n Q)
def am_num (W : Nat → Bool) (n cnt : Nat) (L : am_L) (t : Nat) (P : am_P) : Int32 := am_sum (am_tick W n cnt L t P) n
/-! the search: what holds of it at every point -/
theorem am_set_s {α : Type} {f : Nat → α} {k : Nat} {v : α} : am_set f k v k = v := by simp [am_set]
theorem am_set_n {α : Type} {f : Nat → α} {k j : Nat} {v : α} (h : j ≠ k) : am_set f k v j = f j := by simp [am_set, h]
def am_cnt (fr : Nat → Option Nat) : Nat → Nat
  | 0 => 0
  | k + 1 => am_cnt fr k + (if (fr k).isSome = true then 1 else 0)
theorem am_cnt_le (fr : Nat → Option Nat) : ∀ k, am_cnt fr k ≤ k
  | 0 => Nat.le_refl _
  | k + 1 => by
    have := am_cnt_le fr k
    simp only [am_cnt]
    split <;> omega
theorem am_cnt_lt {fr : Nat → Option Nat} {t : Nat} (hn : fr t = none) : ∀ k, t < k → am_cnt fr k < k
  | 0, h => absurd h (Nat.not_lt_zero _)
  | k + 1, h => by
    by_cases hk : t = k
    · subst hk
      have := am_cnt_le fr t
      simp only [am_cnt, hn]
      simp
      omega
    · have := am_cnt_lt hn k (by omega)
      simp only [am_cnt]
      split <;> omega
theorem am_cnt_cong {fr gr : Nat → Option Nat} : ∀ k, (∀ i, i < k → fr i = gr i) → am_cnt fr k = am_cnt gr k
  | 0, _ => rfl
  | k + 1, h => by
    simp only [am_cnt]
    rw [am_cnt_cong k (fun i hi => h i (by omega)), h k (by omega)]
theorem am_cnt_set {fr : Nat → Option Nat} {t x : Nat} (hn : fr t = none) : ∀ k, t < k → am_cnt (am_set fr t (some x)) k = am_cnt fr k + 1
  | 0, h => absurd h (Nat.not_lt_zero _)
  | k + 1, h => by
    simp only [am_cnt]
    by_cases hk : t = k
    · subst hk
      rw [am_cnt_cong t (gr := fr) (fun i hi => am_set_n (by omega)), am_set_s, hn]
      simp
    · rw [am_cnt_set hn k (by omega), am_set_n (Ne.symm hk)]
      omega
theorem am_beside_lt {x d t : Nat} (hx : x < 64) (h : am_beside x d = some t) : t < 64 := by
  unfold am_beside at h
  repeat' split at h
  all_goals first | (cases h; omega) | cases h
def am_inv (a : Nat) (s : am_B) : Prop :=
  s.2.1 = am_cnt s.2.2.1 64 ∧ s.2.2.1 a ≠ none ∧ (∀ i, i < s.2.1 → s.1 i < 64 ∧ s.2.2.1 (s.1 i) ≠ none) ∧
  ∀ t x, s.2.2.1 t = some x → t < 64 ∧ x < 64 ∧ s.2.2.1 x ≠ none ∧ s.2.2.2 t < s.2.1 ∧ ((t = a ∧ x = a ∧ s.2.2.2 t = 0) ∨ (t ≠ a ∧ s.2.2.2 t = s.2.2.2 x + 1))
theorem am_inv_met {a : Nat} {s : am_B} (h : am_inv a s) : s.2.1 ≤ 64 := by rw [h.1]; exact am_cnt_le _ _
theorem am_inv_room {a : Nat} {s : am_B} (h : am_inv a s) {t : Nat} (ht : t < 64) (hn : s.2.2.1 t = none) : s.2.1 < 64 := by rw [h.1]; exact am_cnt_lt hn _ ht
theorem am_inv_ini {a : Nat} (ha : a < 64) : am_inv a (am_ini a) := by
  refine ⟨?_, ?_, ?_, ?_⟩
  · have : ∀ a, a < 64 → 1 = am_cnt (fun t => if t = a then some a else none) 64 := by decide +kernel
    exact this a ha
  · simp [am_ini]
  · intro i _
    simp [am_ini, ha]
  · intro t x h
    simp only [am_ini] at h ⊢
    split at h
    · cases h
      rename_i ht
      subst ht
      simp [ha]
    · cases h
theorem am_inv_new {a : Nat} {s : am_B} (h : am_inv a s) {t x : Nat} (ht : t < 64) (hn : s.2.2.1 t = none) (hx : s.2.2.1 x ≠ none) : am_inv a (am_set s.1 s.2.1 t, s.2.1 + 1, am_set s.2.2.1 t (some x), am_set s.2.2.2 t (s.2.2.2 x + 1)) := by
  obtain ⟨h1, h2, h3, h4⟩ := h
  have hne : ∀ z, s.2.2.1 z ≠ none → z ≠ t := fun z hz e => hz (by rw [e]; exact hn)
  have hxt := hne x hx
  obtain ⟨y, hy⟩ := Option.ne_none_iff_exists'.mp hx
  obtain ⟨x1, x2, x3, x4, x5⟩ := h4 x y hy
  refine ⟨?_, ?_, ?_, ?_⟩
  · show s.2.1 + 1 = am_cnt (am_set s.2.2.1 t (some x)) 64
    rw [am_cnt_set hn 64 ht, ← h1]
  · show am_set s.2.2.1 t (some x) a ≠ none
    rw [am_set_n (hne a h2)]
    exact h2
  · intro i hi
    show am_set s.1 s.2.1 t i < 64 ∧ am_set s.2.2.1 t (some x) (am_set s.1 s.2.1 t i) ≠ none
    by_cases hi2 : i = s.2.1
    · subst hi2
      rw [am_set_s, am_set_s]
      exact ⟨ht, by simp⟩
    · rw [am_set_n hi2]
      have hi3 : i < s.2.1 := by
        have : i < s.2.1 + 1 := hi
        omega
      obtain ⟨g1, g2⟩ := h3 i hi3
      exact ⟨g1, by rw [am_set_n (hne _ g2)]; exact g2⟩
  · intro t' x' ht'
    show t' < 64 ∧ x' < 64 ∧ am_set s.2.2.1 t (some x) x' ≠ none ∧ am_set s.2.2.2 t (s.2.2.2 x + 1) t' < s.2.1 + 1 ∧ ((t' = a ∧ x' = a ∧ am_set s.2.2.2 t (s.2.2.2 x + 1) t' = 0) ∨ (t' ≠ a ∧ am_set s.2.2.2 t (s.2.2.2 x + 1) t' = am_set s.2.2.2 t (s.2.2.2 x + 1) x' + 1))
    have ht' : am_set s.2.2.1 t (some x) t' = some x' := ht'
    by_cases e : t' = t
    · subst e
      rw [am_set_s] at ht'
      cases ht'
      rw [am_set_s, am_set_n hxt, am_set_n hxt]
      refine ⟨ht, x1, hx, by omega, Or.inr ⟨fun e => ?_, rfl⟩⟩
      exact (hne a h2) e.symm
    · rw [am_set_n e] at ht'
      obtain ⟨g1, g2, g3, g4, g5⟩ := h4 t' x' ht'
      rw [am_set_n e, am_set_n (hne x' g3), am_set_n (hne x' g3)]
      exact ⟨g1, g2, g3, by omega, g5⟩
theorem am_inv_try {a : Nat} {free : Nat → Bool} {s : am_B} (h : am_inv a s) {x d : Nat} (hx : x < 64) (hn : s.2.2.1 x ≠ none) : am_inv a (am_try free x d s) ∧ (am_try free x d s).2.2.1 x ≠ none := by
  unfold am_try
  cases hb : am_beside x d with
  | none => exact ⟨h, hn⟩
  | some t =>
    simp only []
    split
    · rename_i hc
      refine ⟨am_inv_new h (am_beside_lt hx hb) hc.1 hn, ?_⟩
      show am_set s.2.2.1 t (some x) x ≠ none
      rw [am_set_n (fun e => hn (by rw [e]; exact hc.1))]
      exact hn
    · exact ⟨h, hn⟩
theorem am_inv_exp {a : Nat} {free : Nat → Bool} {s : am_B} (h : am_inv a s) {x : Nat} (hx : x < 64) (hn : s.2.2.1 x ≠ none) : ∀ d, am_inv a (am_exp free x s d) ∧ (am_exp free x s d).2.2.1 x ≠ none
  | 0 => ⟨h, hn⟩
  | d + 1 => by
    obtain ⟨g1, g2⟩ := am_inv_exp h hx hn d
    exact am_inv_try g1 hx g2
theorem am_inv_bfs {a b : Nat} {free : Nat → Bool} : ∀ (f k : Nat) (s : am_B), am_inv a s → am_inv a (am_bfs free b f k s)
  | 0, _, _, h => h
  | f + 1, k, s, h => by
    simp only [am_bfs]
    split
    · rename_i hc
      obtain ⟨g1, g2⟩ := h.2.2.1 k hc.1
      exact am_inv_bfs f (k + 1) _ (am_inv_exp h g1 g2 4).1
    · exact h
theorem am_inv_end {a b : Nat} {free : Nat → Bool} (ha : a < 64) : am_inv a (am_end free a b) := am_inv_bfs _ _ _ (am_inv_ini ha)
theorem am_chain_len (fr : Nat → Option Nat) : ∀ n t, (am_chain fr n t).length = n
  | 0, _ => rfl
  | n + 1, t => by simp [am_chain, am_chain_len fr n]
theorem am_chain_lt {a : Nat} {s : am_B} (h : am_inv a s) : ∀ n t, s.2.2.1 t ≠ none → s.2.2.2 t = n → ∀ q ∈ am_chain s.2.2.1 n t, q < 64
  | 0, _, _, _, q, hq => by simp [am_chain] at hq
  | n + 1, t, ht, hn, q, hq => by
    obtain ⟨x, hx⟩ := Option.ne_none_iff_exists'.mp ht
    obtain ⟨g1, g2, g3, g4, g5⟩ := h.2.2.2 t x hx
    simp only [am_chain, List.mem_append, List.mem_singleton] at hq
    rcases hq with hq | rfl
    · rw [hx] at hq
      refine am_chain_lt h n x g3 ?_ q hq
      rcases g5 with ⟨-, -, g6⟩ | ⟨-, g6⟩ <;> omega
    · exact g1
theorem am_find_ok {a b : Nat} {free : Nat → Bool} (ha : a < 64) : (am_find free a b).length < 64 ∧ ∀ q ∈ am_find free a b, q < 64 := by
  have h := am_inv_end (free := free) (b := b) ha
  unfold am_find
  split
  · simp
  · rename_i hb
    obtain ⟨x, hx⟩ := Option.ne_none_iff_exists'.mp hb
    have := h.2.2.2 b x hx
    have := am_inv_met h
    refine ⟨by rw [am_chain_len]; omega, am_chain_lt h _ b hb rfl⟩
/-! what a unit's two rows say -/
def xc_RU (r rt : Nat → Int32) (x : am_U) : Prop :=
  r 3 = nI (am_pts x) ∧ (0 < am_pts x → r 2 = nI (am_til x)) ∧ (am_pts x = 0 → r 2 = -1) ∧ r 4 = nI (am_ord x) ∧ r 5 = nI (am_aim x) ∧ r 6 = nI (am_pat x) ∧
  ∃ f : Nat, r 9 = nI f ∧ r 10 = nI (f + (am_pth x).length) ∧ f + (am_pth x).length ≤ 64 ∧ ∀ i (h : i < (am_pth x).length), rt (f + i) = nI ((am_pth x)[i])
abbrev xc_at (σ : xk_St) (k : Nat) (x : am_U) : Prop := xc_RU (σ.1 k) (σ.1 (k + 16)) x
/-- a unit that can be: n units stand on the field -/
def am_ok (n : Nat) (x : am_U) : Prop :=
  am_pts x ≤ 20 ∧ am_til x < 64 ∧ am_ord x ≤ 2 ∧ am_aim x < 64 ∧ (am_ord x = 2 → am_aim x < n) ∧ am_pat x < 3 ∧ (am_pth x).length ≤ 64 ∧ (∀ t ∈ am_pth x, t < 64) ∧
  (am_pts x = 0 → am_ord x = 0 ∧ am_aim x = 0 ∧ am_pat x = 0 ∧ am_pth x = [])
/-- but for a unit's own row nothing has changed, and not its side and start -/
def xc_own (k : Nat) (σ τ : xk_St) : Prop := τ.2 = σ.2 ∧ (∀ j, j ≠ k → τ.1 j = σ.1 j) ∧ τ.1 k 0 = σ.1 k 0 ∧ τ.1 k 1 = σ.1 k 1
/-- but for a play's own rows, and those of the search, nothing has changed, and no unit's side and start -/
def xc_fr (p : Nat) (σ τ : xk_St) : Prop := τ.2 = σ.2 ∧
  (∀ k, ¬ (k = 2 ∨ k = 3 ∨ k = 4 ∨ k = 12 + 3 * p ∨ (17 + 8 * p ≤ k ∧ k < 25 + 8 * p) ∨ (33 + 8 * p ≤ k ∧ k < 41 + 8 * p)) → τ.1 k = σ.1 k) ∧
  ∀ k, 17 + 8 * p ≤ k → k < 25 + 8 * p → τ.1 k 0 = σ.1 k 0 ∧ τ.1 k 1 = σ.1 k 1
theorem xc_fr.rf {p : Nat} {σ : xk_St} : xc_fr p σ σ := ⟨rfl, fun _ _ => rfl, fun _ _ _ => ⟨rfl, rfl⟩⟩
theorem xc_fr.tr {p : Nat} {σ τ υ : xk_St} (h : xc_fr p σ τ) (g : xc_fr p τ υ) : xc_fr p σ υ :=
  ⟨g.1.trans h.1, fun k hk => (g.2.1 k hk).trans (h.2.1 k hk), fun k h1 h2 => ⟨((g.2.2 k h1 h2).1).trans (h.2.2 k h1 h2).1, ((g.2.2 k h1 h2).2).trans (h.2.2 k h1 h2).2⟩⟩
theorem xc_own.fr {p u : Nat} {σ τ : xk_St} (hu : u < 8) (h : xc_own (17 + 8 * p + u) σ τ) : xc_fr p σ τ :=
  ⟨h.1, fun k hk => h.2.1 k (by omega), fun k h1 h2 => by
    by_cases e : k = 17 + 8 * p + u
    · subst e; exact h.2.2
    · rw [h.2.1 k e]; exact ⟨rfl, rfl⟩⟩
/-- a play: how many units, and each -/
def xc_pl (p n : Nat) (P : am_P) (σ : xk_St) : Prop := σ.1 (10 + 3 * p) 3 = nI n ∧ ∀ u, u < n → xc_at σ (17 + 8 * p + u) (P u)
/-! the model keeps to what can be -/
def am_okP (n : Nat) (P : am_P) : Prop := ∀ u, u < n → am_ok n (P u)
theorem am_ok_drop {n : Nat} {x : am_U} (h : am_ok n x) : am_ok n (am_drop x) := by
  obtain ⟨h1, h2, h3, h4, h5, h6, h7, h8, h9⟩ := h
  exact ⟨h1, h2, Nat.zero_le _, (by decide : 0 < 64), fun e => absurd e (show ¬ (0 : Nat) = 2 by decide), h6, h7, h8, fun e => ⟨rfl, rfl, (h9 e).2.2.1, (h9 e).2.2.2⟩⟩
theorem am_ok_step {W : Nat → Bool} {n : Nat} {P : am_P} {x : am_U} {goal : Nat} (h : am_ok n x) (ha : 0 < am_pts x) : am_ok n (am_step W n P x goal) := by
  have h0 := h
  obtain ⟨h1, h2, h3, h4, h5, h6, h7, h8, h9⟩ := h
  have ha' : ¬ am_pts x = 0 := by omega
  unfold am_step
  split
  · exact am_ok_drop h0
  · rename_i t r hp
    have ht : t < 64 := h8 t (by rw [hp]; exact List.mem_cons_self)
    have hr : ∀ q ∈ r, q < 64 := fun q hq => h8 q (by rw [hp]; exact List.mem_cons_of_mem _ hq)
    have hl : r.length ≤ 64 := by
      have := h7
      rw [hp] at this
      simp at this
      omega
    split
    · split
      · exact ⟨h1, ht, Nat.zero_le _, (by decide : 0 < 64), fun e => absurd e (show ¬ (0 : Nat) = 2 by decide), (by decide : 0 < 3), hl, hr, fun e => absurd e ha'⟩
      · exact ⟨h1, ht, h3, h4, h5, (by decide : 0 < 3), hl, hr, fun e => absurd e ha'⟩
    · split
      · rename_i hq
        exact ⟨h1, h2, h3, h4, h5, hq, h7, h8, fun e => absurd e ha'⟩
      · have hf := am_find_ok (free := am_free W (fun t => am_taken P t n) goal) (b := goal) h2
        split
        · exact ⟨h1, h2, h3, h4, h5, (by decide : 0 < 3), h7, h8, fun e => absurd e ha'⟩
        · rename_i q z hz
          rw [hz] at hf
          exact ⟨h1, h2, h3, h4, h5, (by decide : 0 < 3), Nat.le_of_lt hf.1, hf.2, fun e => absurd e ha'⟩
theorem am_ok_walk {W : Nat → Bool} {n : Nat} {P : am_P} {x : am_U} {goal : Nat} (h : am_ok n x) (ha : 0 < am_pts x) : am_ok n (am_walk W n P x goal) := by
  unfold am_walk
  split
  · exact am_ok_step h ha
  · refine am_ok_step ?_ ha
    obtain ⟨h1, h2, h3, h4, h5, h6, h7, h8, h9⟩ := h
    have hf := am_find_ok (free := am_free W (fun _ => false) goal) (b := goal) h2
    exact ⟨h1, h2, h3, h4, h5, h6, Nat.le_of_lt hf.1, hf.2, fun e => absurd e (show ¬ am_pts x = 0 by omega)⟩
theorem am_ok_go {W : Nat → Bool} {n : Nat} {P : am_P} {x : am_U} (h : am_ok n x) (ha : 0 < am_pts x) : am_ok n (am_go W n P x) := by
  have h0 := h
  obtain ⟨h1, h2, h3, h4, h5, h6, h7, h8, h9⟩ := h
  unfold am_go
  split
  · split
    · exact am_ok_drop h0
    · split
      · exact ⟨h1, h2, h3, h4, h5, h6, Nat.zero_le _, fun t ht => absurd ht List.not_mem_nil, fun e => absurd e (show ¬ am_pts x = 0 by omega)⟩
      · exact am_ok_walk h0 ha
  · split
    · exact am_ok_drop h0
    · exact am_ok_walk h0 ha
theorem am_ok_alive {n : Nat} {x : am_U} (h : am_ok n x) (ho : am_ord x ≠ 0) : 0 < am_pts x := by
  obtain ⟨h1, h2, h3, h4, h5, h6, h7, h8, h9⟩ := h
  rcases Nat.eq_zero_or_pos (am_pts x) with e | e
  · exact absurd (h9 e).1 ho
  · exact e
theorem am_okP_set {n u : Nat} {P : am_P} {x : am_U} (h : am_okP n P) (hx : am_ok n x) : am_okP n (am_set P u x) := by
  intro v hv
  by_cases e : v = u
  · subst e; rw [am_set_s]; exact hx
  · rw [am_set_n e]; exact h v hv
theorem am_okP_moves {W : Nat → Bool} {n : Nat} {P : am_P} (h : am_okP n P) : ∀ u, u ≤ n → am_okP n (am_moves W n P u)
  | 0, _ => h
  | u + 1, hu => by
    have ih := am_okP_moves (W := W) h u (by omega)
    simp only [am_moves]
    split
    · exact ih
    · rename_i ho
      exact am_okP_set ih (am_ok_go (ih u (by omega)) (am_ok_alive (ih u (by omega)) ho))
/-- a log that can be -/
def am_okL (n cnt : Nat) (L : am_L) : Prop := cnt ≤ 24 ∧ ∀ e, e < cnt → (L e).2.1 < n ∧ (L e).2.2.1 ≤ 2 ∧ (L e).2.2.2 < 64 ∧ ((L e).2.2.1 = 2 → (L e).2.2.2 < n)
theorem am_okP_obey {n cnt : Nat} {L : am_L} {t : Int32} {P : am_P} (h : am_okP n P) (hL : am_okL n cnt L) : ∀ e, e ≤ cnt → am_okP n (am_obey L t P e)
  | 0, _ => h
  | e + 1, he => by
    have ih := am_okP_obey (t := t) h hL e (by omega)
    simp only [am_obey]
    split
    · rename_i hc
      obtain ⟨g1, g2, g3, g4⟩ := hL.2 e (by omega)
      obtain ⟨h1, h2, -⟩ := ih (L e).2.1 g1
      exact am_okP_set ih ⟨h1, h2, g2, g3, g4, (by decide : 0 < 3), Nat.zero_le _, fun t ht => absurd ht List.not_mem_nil, fun e' => absurd e' (Nat.ne_of_gt hc.2)⟩
    · exact ih
theorem am_ok_hurt {n l : Nat} {x : am_U} (h : am_ok n x) : am_ok n (am_hurt x l) := by
  obtain ⟨h1, h2, h3, h4, h5, h6, h7, h8, h9⟩ := h
  unfold am_hurt
  split
  · exact ⟨Nat.zero_le _, h2, Nat.zero_le _, (by decide : 0 < 64), fun e => absurd e (show ¬ (0 : Nat) = 2 by decide), (by decide : 0 < 3), Nat.zero_le _, fun t ht => absurd ht List.not_mem_nil, fun _ => ⟨rfl, rfl, rfl, rfl⟩⟩
  · rename_i hl
    exact ⟨Nat.le_trans (Nat.sub_le _ _) h1, h2, h3, h4, h5, h6, h7, h8, fun e => absurd e (by show ¬ am_pts x - l = 0; omega)⟩
theorem am_ok_rest {n l : Nat} {x : am_U} (h : am_ok n x) : am_ok n (am_rest x l) := by
  have h0 := h
  obtain ⟨h1, h2, h3, h4, h5, h6, h7, h8, h9⟩ := h
  unfold am_rest
  split
  · rename_i hc
    exact ⟨by show am_pts x + 1 ≤ 20; omega, h2, h3, h4, h5, h6, h7, h8, fun e => absurd e (Nat.succ_ne_zero _)⟩
  · exact h0
theorem am_okP_tick {W : Nat → Bool} {n cnt t : Nat} {L : am_L} {P : am_P} (h : am_okP n P) (hL : am_okL n cnt L) : am_okP n (am_tick W n cnt L t P) := by
  have h1 := am_okP_moves (W := W) (am_okP_obey (t := nI t) h hL cnt (Nat.le_refl _)) n (Nat.le_refl _)
  intro u hu
  have h2 : am_ok n (am_blow n (am_moves W n (am_obey L (nI t) P cnt) n) u) := by
    unfold am_blow
    rw [if_pos hu]
    exact am_ok_hurt (h1 u hu)
  unfold am_tick am_calm
  split
  · exact am_ok_rest h2
  · exact h2
