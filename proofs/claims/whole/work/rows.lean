section
-- ===== PART A: goes FIRST, ahead of the names: the tables' words, and 'selects' of the private methods out of them =====
/-- a private method of a class that the tables say can be made, by its rows of tables_1 -/
def lw_okq (q : MethodName × Nat) : Prop := (q.1.cls ≠ "java/lang/invoke/MethodHandle" ∧ q.1.cls ≠ "java/lang/invoke/VarHandle") ∧ Cond.instantiable q.1.cls q.2 ∈ tables_1 ∧ Cond.privateMethod q.1 ∈ tables_1 ∧ Cond.instanceMethod q.1 ∈ tables_1
theorem lw_p0 : lw_okq (⟨"LockstepField$Play", "takenTiles", "()J"⟩, 4) := ⟨⟨by decide +kernel, by decide +kernel⟩, List.mem_of_getElem? (i := 67) (by decide +kernel), List.mem_of_getElem? (i := 175) (by decide +kernel), List.mem_of_getElem? (i := 176) (by decide +kernel)⟩
theorem lw_p1 : lw_okq (⟨"LockstepField", "isKindWithNumber", "(III)Z"⟩, 7) := ⟨⟨by decide +kernel, by decide +kernel⟩, List.mem_of_getElem? (i := 11) (by decide +kernel), List.mem_of_getElem? (i := 232) (by decide +kernel), List.mem_of_getElem? (i := 233) (by decide +kernel)⟩
theorem lw_p2 : lw_okq (⟨"LockstepField$Log", "closeGap", "([II)V"⟩, 5) := ⟨⟨by decide +kernel, by decide +kernel⟩, List.mem_of_getElem? (i := 39) (by decide +kernel), List.mem_of_getElem? (i := 248) (by decide +kernel), List.mem_of_getElem? (i := 249) (by decide +kernel)⟩
theorem lw_p3 : lw_okq (⟨"LockstepField$Play", "giveOrders", "(ILLockstepField$Log;)V"⟩, 4) := ⟨⟨by decide +kernel, by decide +kernel⟩, List.mem_of_getElem? (i := 67) (by decide +kernel), List.mem_of_getElem? (i := 263) (by decide +kernel), List.mem_of_getElem? (i := 264) (by decide +kernel)⟩
theorem lw_p4 : lw_okq (⟨"LockstepField$Play", "follow", "(LLockstepField$Unit;)V"⟩, 4) := ⟨⟨by decide +kernel, by decide +kernel⟩, List.mem_of_getElem? (i := 67) (by decide +kernel), List.mem_of_getElem? (i := 268) (by decide +kernel), List.mem_of_getElem? (i := 269) (by decide +kernel)⟩
theorem lw_p5 : lw_okq (⟨"LockstepField$Play", "goalOf", "(LLockstepField$Unit;)I"⟩, 4) := ⟨⟨by decide +kernel, by decide +kernel⟩, List.mem_of_getElem? (i := 67) (by decide +kernel), List.mem_of_getElem? (i := 272) (by decide +kernel), List.mem_of_getElem? (i := 273) (by decide +kernel)⟩
theorem lw_p6 : lw_okq (⟨"LockstepField$Play", "walk", "(LLockstepField$Unit;I)V"⟩, 4) := ⟨⟨by decide +kernel, by decide +kernel⟩, List.mem_of_getElem? (i := 67) (by decide +kernel), List.mem_of_getElem? (i := 288) (by decide +kernel), List.mem_of_getElem? (i := 289) (by decide +kernel)⟩
theorem lw_p7 : lw_okq (⟨"LockstepField$Play", "findPath", "(LLockstepField$Unit;IJ)V"⟩, 4) := ⟨⟨by decide +kernel, by decide +kernel⟩, List.mem_of_getElem? (i := 67) (by decide +kernel), List.mem_of_getElem? (i := 300) (by decide +kernel), List.mem_of_getElem? (i := 301) (by decide +kernel)⟩
theorem lw_p8 : lw_okq (⟨"LockstepField$Play", "exchangeBlows", "()V"⟩, 4) := ⟨⟨by decide +kernel, by decide +kernel⟩, List.mem_of_getElem? (i := 67) (by decide +kernel), List.mem_of_getElem? (i := 333) (by decide +kernel), List.mem_of_getElem? (i := 334) (by decide +kernel)⟩
theorem lw_p9 : lw_okq (⟨"LockstepField$Play", "restAll", "()V"⟩, 4) := ⟨⟨by decide +kernel, by decide +kernel⟩, List.mem_of_getElem? (i := 67) (by decide +kernel), List.mem_of_getElem? (i := 349) (by decide +kernel), List.mem_of_getElem? (i := 350) (by decide +kernel)⟩
theorem lw_p10 : lw_okq (⟨"LockstepField$Play", "sum", "()I"⟩, 4) := ⟨⟨by decide +kernel, by decide +kernel⟩, List.mem_of_getElem? (i := 67) (by decide +kernel), List.mem_of_getElem? (i := 357) (by decide +kernel), List.mem_of_getElem? (i := 358) (by decide +kernel)⟩
theorem lw_p11 : lw_okq (⟨"LockstepFieldModel", "isTaken", "(I)Z"⟩, 30) := ⟨⟨by decide +kernel, by decide +kernel⟩, List.mem_of_getElem? (i := 410) (by decide +kernel), List.mem_of_getElem? (i := 515) (by decide +kernel), List.mem_of_getElem? (i := 516) (by decide +kernel)⟩
theorem lw_p12 : lw_okq (⟨"LockstepFieldModel", "isUnit", "(I)Z"⟩, 30) := ⟨⟨by decide +kernel, by decide +kernel⟩, List.mem_of_getElem? (i := 410) (by decide +kernel), List.mem_of_getElem? (i := 531) (by decide +kernel), List.mem_of_getElem? (i := 532) (by decide +kernel)⟩
theorem lw_p13 : lw_okq (⟨"LockstepFieldModel", "find", "(IIZ)I"⟩, 30) := ⟨⟨by decide +kernel, by decide +kernel⟩, List.mem_of_getElem? (i := 410) (by decide +kernel), List.mem_of_getElem? (i := 543) (by decide +kernel), List.mem_of_getElem? (i := 544) (by decide +kernel)⟩
theorem lw_p14 : lw_okq (⟨"LockstepFieldModel", "play", "(I)I"⟩, 30) := ⟨⟨by decide +kernel, by decide +kernel⟩, List.mem_of_getElem? (i := 410) (by decide +kernel), List.mem_of_getElem? (i := 554) (by decide +kernel), List.mem_of_getElem? (i := 555) (by decide +kernel)⟩
theorem lw_p15 : lw_okq (⟨"LockstepFieldModel", "obey", "(I)V"⟩, 30) := ⟨⟨by decide +kernel, by decide +kernel⟩, List.mem_of_getElem? (i := 410) (by decide +kernel), List.mem_of_getElem? (i := 558) (by decide +kernel), List.mem_of_getElem? (i := 559) (by decide +kernel)⟩
def lw_privs_1 : List (MethodName × Nat) := [(⟨"LockstepField$Play", "takenTiles", "()J"⟩, 4), (⟨"LockstepField", "isKindWithNumber", "(III)Z"⟩, 7), (⟨"LockstepField$Log", "closeGap", "([II)V"⟩, 5), (⟨"LockstepField$Play", "giveOrders", "(ILLockstepField$Log;)V"⟩, 4), (⟨"LockstepField$Play", "follow", "(LLockstepField$Unit;)V"⟩, 4), (⟨"LockstepField$Play", "goalOf", "(LLockstepField$Unit;)I"⟩, 4), (⟨"LockstepField$Play", "walk", "(LLockstepField$Unit;I)V"⟩, 4), (⟨"LockstepField$Play", "findPath", "(LLockstepField$Unit;IJ)V"⟩, 4), (⟨"LockstepField$Play", "exchangeBlows", "()V"⟩, 4), (⟨"LockstepField$Play", "restAll", "()V"⟩, 4), (⟨"LockstepField$Play", "sum", "()I"⟩, 4), (⟨"LockstepFieldModel", "isTaken", "(I)Z"⟩, 30), (⟨"LockstepFieldModel", "isUnit", "(I)Z"⟩, 30), (⟨"LockstepFieldModel", "find", "(IIZ)I"⟩, 30), (⟨"LockstepFieldModel", "play", "(I)I"⟩, 30), (⟨"LockstepFieldModel", "obey", "(I)V"⟩, 30)]
theorem lw_r1 : ∀ q ∈ lw_privs_1, lw_okq q := List.forall_mem_cons.mpr ⟨lw_p0, List.forall_mem_cons.mpr ⟨lw_p1, List.forall_mem_cons.mpr ⟨lw_p2, List.forall_mem_cons.mpr ⟨lw_p3, List.forall_mem_cons.mpr ⟨lw_p4, List.forall_mem_cons.mpr ⟨lw_p5, List.forall_mem_cons.mpr ⟨lw_p6, List.forall_mem_cons.mpr ⟨lw_p7, List.forall_mem_cons.mpr ⟨lw_p8, List.forall_mem_cons.mpr ⟨lw_p9, List.forall_mem_cons.mpr ⟨lw_p10, List.forall_mem_cons.mpr ⟨lw_p11, List.forall_mem_cons.mpr ⟨lw_p12, List.forall_mem_cons.mpr ⟨lw_p13, List.forall_mem_cons.mpr ⟨lw_p14, List.forall_mem_cons.mpr ⟨lw_p15, fun _ h => absurd h List.not_mem_nil⟩⟩⟩⟩⟩⟩⟩⟩⟩⟩⟩⟩⟩⟩⟩⟩
theorem lw_p16 : lw_okq (⟨"LockstepFieldModel", "move", "(I)V"⟩, 30) := ⟨⟨by decide +kernel, by decide +kernel⟩, List.mem_of_getElem? (i := 410) (by decide +kernel), List.mem_of_getElem? (i := 562) (by decide +kernel), List.mem_of_getElem? (i := 563) (by decide +kernel)⟩
theorem lw_p17 : lw_okq (⟨"LockstepFieldModel", "stop", "(I)V"⟩, 30) := ⟨⟨by decide +kernel, by decide +kernel⟩, List.mem_of_getElem? (i := 410) (by decide +kernel), List.mem_of_getElem? (i := 566) (by decide +kernel), List.mem_of_getElem? (i := 567) (by decide +kernel)⟩
theorem lw_p18 : lw_okq (⟨"LockstepFieldModel", "take", "(II)V"⟩, 30) := ⟨⟨by decide +kernel, by decide +kernel⟩, List.mem_of_getElem? (i := 410) (by decide +kernel), List.mem_of_getElem? (i := 573) (by decide +kernel), List.mem_of_getElem? (i := 574) (by decide +kernel)⟩
theorem lw_p19 : lw_okq (⟨"LockstepFieldModel", "step", "(IIZ)V"⟩, 30) := ⟨⟨by decide +kernel, by decide +kernel⟩, List.mem_of_getElem? (i := 410) (by decide +kernel), List.mem_of_getElem? (i := 577) (by decide +kernel), List.mem_of_getElem? (i := 578) (by decide +kernel)⟩
theorem lw_p20 : lw_okq (⟨"LockstepFieldModel", "fight", "()V"⟩, 30) := ⟨⟨by decide +kernel, by decide +kernel⟩, List.mem_of_getElem? (i := 410) (by decide +kernel), List.mem_of_getElem? (i := 581) (by decide +kernel), List.mem_of_getElem? (i := 582) (by decide +kernel)⟩
theorem lw_p21 : lw_okq (⟨"LockstepFieldModel", "layAside", "()V"⟩, 30) := ⟨⟨by decide +kernel, by decide +kernel⟩, List.mem_of_getElem? (i := 410) (by decide +kernel), List.mem_of_getElem? (i := 589) (by decide +kernel), List.mem_of_getElem? (i := 590) (by decide +kernel)⟩
theorem lw_p22 : lw_okq (⟨"LockstepFieldModel", "putBack", "()V"⟩, 30) := ⟨⟨by decide +kernel, by decide +kernel⟩, List.mem_of_getElem? (i := 410) (by decide +kernel), List.mem_of_getElem? (i := 593) (by decide +kernel), List.mem_of_getElem? (i := 594) (by decide +kernel)⟩
def lw_privs_2 : List (MethodName × Nat) := [(⟨"LockstepFieldModel", "move", "(I)V"⟩, 30), (⟨"LockstepFieldModel", "stop", "(I)V"⟩, 30), (⟨"LockstepFieldModel", "take", "(II)V"⟩, 30), (⟨"LockstepFieldModel", "step", "(IIZ)V"⟩, 30), (⟨"LockstepFieldModel", "fight", "()V"⟩, 30), (⟨"LockstepFieldModel", "layAside", "()V"⟩, 30), (⟨"LockstepFieldModel", "putBack", "()V"⟩, 30)]
theorem lw_r2 : ∀ q ∈ lw_privs_2, lw_okq q := List.forall_mem_cons.mpr ⟨lw_p16, List.forall_mem_cons.mpr ⟨lw_p17, List.forall_mem_cons.mpr ⟨lw_p18, List.forall_mem_cons.mpr ⟨lw_p19, List.forall_mem_cons.mpr ⟨lw_p20, List.forall_mem_cons.mpr ⟨lw_p21, List.forall_mem_cons.mpr ⟨lw_p22, fun _ h => absurd h List.not_mem_nil⟩⟩⟩⟩⟩⟩⟩
def lw_privs : List (MethodName × Nat) := lw_privs_1 ++ (lw_privs_2)
def lw_tbl : List Cond := k2_sels lw_privs ++ tables_1
theorem lw_privs_ok : ∀ q ∈ lw_privs, lw_okq q := by
  show ∀ q ∈ lw_privs_1 ++ (lw_privs_2), lw_okq q
  exact List.forall_mem_append.mpr ⟨lw_r1, lw_r2⟩
end
section
/-! THE FRAME. A world of fixed shape (cells numbered, contents in one memory), the machine's walk over it (xk_X), a method's contract over it (xk_M). -/
abbrev xk_St : Type := (Nat → Nat → Int32) × (Nat → Nat → Int64)
abbrev xk_FK : Type := Option Nat ⊕ Unit
abbrev xk_Sh : Type := (Nat × Nat) ⊕ (Nat × List xk_FK)
abbrev xk_G : Type := (Nat → Nat) × (Nat → ClassId)
def xk_fv (ad : Nat → Nat) (σ : xk_St) (k j : Nat) (f : xk_FK) : Value := match f with
  | .inl none => .int (σ.1 k j)
  | .inl (some r) => .ref (ad r)
  | .inr _ => .long (σ.2 k j)
def xk_fs (ad : Nat → Nat) (σ : xk_St) (k : Nat) : Nat → List xk_FK → List Value
  | _, [] => []
  | j, f :: r => xk_fv ad σ k j f :: xk_fs ad σ k (j + 1) r
def xk_ac (ad : Nat → Nat) (σ : xk_St) (k kd : Nat) : (Nat → Int32) ⊕ (Nat → Int64) ⊕ (Nat → UInt32) ⊕ (Nat → UInt64) ⊕ (Nat → Option Nat) := match kd with
  | 0 => .inl (σ.1 k)
  | 1 => .inl (σ.1 k)
  | b + 2 => .inr (.inr (.inr (.inr (fun u => some (ad (b + u))))))
def xk_cell (g : xk_G) (σ : xk_St) (k : Nat) (sh : xk_Sh) : va_E := match sh with
  | .inl (kd, n) => .inl (g.2 k, n, xk_ac g.1 σ k kd)
  | .inr (ci, fks) => .inr (ci, xk_fs g.1 σ k 0 fks)
def xk_go (g : xk_G) (σ : xk_St) : Nat → List xk_Sh → va_W
  | _, [] => []
  | k, sh :: r => (g.1 k, xk_cell g σ k sh) :: xk_go g σ (k + 1) r
def xk_wl (shp : List xk_Sh) (g : xk_G) (σ : xk_St) : va_W := xk_go g σ 0 shp
theorem xk_fs_at (ad : Nat → Nat) (σ : xk_St) (k : Nat) : ∀ (l : List xk_FK) (j i : Nat), (xk_fs ad σ k j l)[i]? = l[i]?.map (fun f => xk_fv ad σ k (j + i) f)
  | [], j, i => by simp [xk_fs]
  | f :: r, j, 0 => by simp [xk_fs]
  | f :: r, j, i + 1 => by
    rw [xk_fs, List.getElem?_cons_succ, List.getElem?_cons_succ, xk_fs_at ad σ k r (j + 1) i, show j + 1 + i = j + (i + 1) by omega]
theorem xk_go_at (g : xk_G) (σ : xk_St) : ∀ (l : List xk_Sh) (j i : Nat), (xk_go g σ j l)[i]? = l[i]?.map (fun sh => (g.1 (j + i), xk_cell g σ (j + i) sh))
  | [], j, i => by simp [xk_go]
  | f :: r, j, 0 => by simp [xk_go]
  | f :: r, j, i + 1 => by
    rw [xk_go, List.getElem?_cons_succ, List.getElem?_cons_succ, xk_go_at g σ r (j + 1) i, show j + 1 + i = j + (i + 1) by omega]
theorem xk_wl_at {shp : List xk_Sh} {g : xk_G} {σ : xk_St} {k : Nat} {sh : xk_Sh} (h : shp[k]? = some sh) : (xk_wl shp g σ)[k]? = some (g.1 k, xk_cell g σ k sh) := by
  rw [xk_wl, xk_go_at, h]; simp
theorem xk_wl_inv {shp : List xk_Sh} {g : xk_G} {σ : xk_St} {k : Nat} {q : Nat × va_E} (h : (xk_wl shp g σ)[k]? = some q) : ∃ sh, shp[k]? = some sh ∧ q = (g.1 k, xk_cell g σ k sh) := by
  rw [xk_wl, xk_go_at] at h
  cases hs : shp[k]? with
  | none => rw [hs] at h; simp at h
  | some sh => rw [hs] at h; simp at h; exact ⟨sh, rfl, h.symm⟩
theorem xk_cell_cong {g : xk_G} {σ τ : xk_St} {k : Nat} (h1 : τ.1 k = σ.1 k) (h2 : τ.2 k = σ.2 k) (sh : xk_Sh) : xk_cell g τ k sh = xk_cell g σ k sh := by
  have hf : ∀ (l : List xk_FK) (j : Nat), xk_fs g.1 τ k j l = xk_fs g.1 σ k j l := by
    intro l
    induction l with
    | nil => intro j; rfl
    | cons f r ih =>
      intro j
      rw [xk_fs, xk_fs, ih]
      congr 1
      rcases f with (_ | r) | _
      · simp only [xk_fv, h1]
      · rfl
      · simp only [xk_fv, h2]
  rcases sh with ⟨kd, n⟩ | ⟨ci, fks⟩
  · match kd with
    | 0 => simp only [xk_cell, xk_ac, h1]
    | 1 => simp only [xk_cell, xk_ac, h1]
    | b + 2 => rfl
  · simp only [xk_cell, hf]
theorem xk_wl_set {shp : List xk_Sh} {g : xk_G} {σ τ : xk_St} {k : Nat} {sh : xk_Sh} (h : shp[k]? = some sh) (ho : ∀ i, i ≠ k → τ.1 i = σ.1 i ∧ τ.2 i = σ.2 i) : (xk_wl shp g σ).set k (g.1 k, xk_cell g τ k sh) = xk_wl shp g τ := by
  apply List.ext_getElem?
  intro i
  by_cases hi : k = i
  · subst hi
    have hl : k < (xk_wl shp g σ).length := (List.getElem?_eq_some_iff.mp (xk_wl_at (g := g) (σ := σ) h)).1
    rw [List.getElem?_set_self hl, xk_wl_at h]
  · rw [List.getElem?_set_ne hi]
    cases hs : shp[i]? with
    | none =>
      rw [xk_wl, xk_wl, xk_go_at, xk_go_at, hs]; rfl
    | some sh' =>
      rw [xk_wl_at hs, xk_wl_at hs, xk_cell_cong (ho i (Ne.symm hi)).1 (ho i (Ne.symm hi)).2]
def xk_up (σ : xk_St) (k j : Nat) (v : Int32) : xk_St := (fun a b => if a = k ∧ b = j then v else σ.1 a b, σ.2)
def xk_upL (σ : xk_St) (k j : Nat) (v : Int64) : xk_St := (σ.1, fun a b => if a = k ∧ b = j then v else σ.2 a b)
def xk_row (σ : xk_St) (k : Nat) (f : Nat → Int32) : xk_St := (fun a => if a = k then f else σ.1 a, σ.2)
theorem xk_up_ne {σ : xk_St} {k j : Nat} {v : Int32} (i : Nat) (h : i ≠ k) : (xk_up σ k j v).1 i = σ.1 i ∧ (xk_up σ k j v).2 i = σ.2 i := ⟨by funext b; simp [xk_up, h], rfl⟩
theorem xk_upL_ne {σ : xk_St} {k j : Nat} {v : Int64} (i : Nat) (h : i ≠ k) : (xk_upL σ k j v).1 i = σ.1 i ∧ (xk_upL σ k j v).2 i = σ.2 i := ⟨rfl, by funext b; simp [xk_upL, h]⟩
theorem xk_row_ne {σ : xk_St} {k : Nat} {f : Nat → Int32} (i : Nat) (h : i ≠ k) : (xk_row σ k f).1 i = σ.1 i ∧ (xk_row σ k f).2 i = σ.2 i := ⟨by simp [xk_row, h], rfl⟩
theorem xk_fs_put {ad : Nat → Nat} {σ : xk_St} {k j : Nat} {fks : List xk_FK} (v : Int32) (hj : fks[j]? = some (.inl none)) : (xk_fs ad σ k 0 fks).set j (.int v) = xk_fs ad (xk_up σ k j v) k 0 fks := by
  apply List.ext_getElem?
  intro i
  have hl : j < (xk_fs ad σ k 0 fks).length := (List.getElem?_eq_some_iff.mp (show (xk_fs ad σ k 0 fks)[j]? = some _ by rw [xk_fs_at, hj]; rfl)).1
  by_cases hi : j = i
  · subst hi
    rw [List.getElem?_set_self hl, xk_fs_at, hj]
    simp [xk_fv, xk_up]
  · rw [List.getElem?_set_ne hi, xk_fs_at, xk_fs_at]
    cases fks[i]? with
    | none => rfl
    | some f =>
      rcases f with (_ | r) | _
      · simp [xk_fv, xk_up, Ne.symm hi]
      · rfl
      · rfl
theorem xk_fs_putL {ad : Nat → Nat} {σ : xk_St} {k j : Nat} {fks : List xk_FK} (v : Int64) (hj : fks[j]? = some (.inr ())) : (xk_fs ad σ k 0 fks).set j (.long v) = xk_fs ad (xk_upL σ k j v) k 0 fks := by
  apply List.ext_getElem?
  intro i
  have hl : j < (xk_fs ad σ k 0 fks).length := (List.getElem?_eq_some_iff.mp (show (xk_fs ad σ k 0 fks)[j]? = some _ by rw [xk_fs_at, hj]; rfl)).1
  by_cases hi : j = i
  · subst hi
    rw [List.getElem?_set_self hl, xk_fs_at, hj]
    simp [xk_fv, xk_upL]
  · rw [List.getElem?_set_ne hi, xk_fs_at, xk_fs_at]
    cases fks[i]? with
    | none => rfl
    | some f =>
      rcases f with (_ | r) | _
      · rfl
      · rfl
      · simp [xk_fv, xk_upL, Ne.symm hi]
/-- which cells a method may change -/
def xk_A (shp : List xk_Sh) (g : xk_G) (sz : Nat) : Nat → Prop := fun q => (∃ k, k < shp.length ∧ q = g.1 k) ∨ sz ≤ q
def xk_ty (rc : String) : Nat → FieldType
  | 0 => .int
  | 1 => .boolean
  | _ => .object rc
/-- a world, its fixed part: words, nest words, numbers, kinds, shapes, what rows of references hold, addresses -/
abbrev xk_w : Type := List Cond × List Cond × va_G × List vw_C × List xk_Sh × String × xk_G
abbrev xk_wT (w : xk_w) : List Cond := w.1
abbrev xk_wN (w : xk_w) : List Cond := w.2.1
abbrev xk_wD (w : xk_w) : va_G := w.2.2.1
abbrev xk_wC (w : xk_w) : List vw_C := w.2.2.2.1
abbrev xk_wS (w : xk_w) : List xk_Sh := w.2.2.2.2.1
abbrev xk_wR (w : xk_w) : String := w.2.2.2.2.2.1
abbrev xk_wG (w : xk_w) : xk_G := w.2.2.2.2.2.2
abbrev xk_wA (w : xk_w) (k : Nat) : Nat := (xk_wG w).1 k
def xk_nw : Cond → Bool
  | .fieldLinkNest .. => true
  | .methodLinkNest .. => true
  | _ => false
theorem xk_nw_tab {v : Cond} (h : xk_nw v = true) : v.onTables = true := by
  cases v <;> first | rfl | (simp [xk_nw] at h)
theorem xk_nw_warm {v : Cond} (h : xk_nw v = true) {s U : State} (hW : s.WarmedH U.vm) (hZ : va_Nw v s) : va_Nw v U := by
  cases v <;> first | exact va_Nw.warmF hW hZ | exact va_Nw.warmM hW hZ | (simp [xk_nw] at h)
def xk_ws (w : xk_w) (σ : xk_St) : va_W := xk_wl (xk_wS w) (xk_wG w) σ
def xk_KK (w : xk_w) (U : State) : Prop := va_K (xk_wD w) (xk_wC w) [] U ∧ (∀ (k kd n : Nat), (xk_wS w)[k]? = some (.inl (kd, n)) → ArrOfT U ((xk_wG w).2 k) (xk_ty (xk_wR w) kd) ∧ va_RA U ((xk_wG w).2 k) (xk_ty (xk_wR w) kd)) ∧ ∀ v ∈ xk_wN w, xk_nw v = true ∧ va_Nw v U
theorem xk_KK.moved {w : xk_w} {s U : State} (hW : s.WarmedH U.vm) (h : xk_KK w s) : xk_KK w U := ⟨va_K.moved hW.alike h.1, fun k kd n hk => ⟨arrOfT_moved hW.alike (h.2.1 k kd n hk).1, (h.2.1 k kd n hk).2.moved hW.alike⟩, fun v hv => ⟨(h.2.2 v hv).1, xk_nw_warm (h.2.2 v hv).1 hW (h.2.2 v hv).2⟩⟩
theorem xk_KK.same {w : xk_w} {u U : State} (hvm : u.vm = U.vm) (h : xk_KK w u) : xk_KK w U := by
  have ha : u.vm.Alike U.vm := by rw [← hvm]; exact Vm.Alike.refl u.vm
  exact ⟨va_K.moved ha h.1, fun k kd n hk => ⟨arrOfT_moved ha (h.2.1 k kd n hk).1, (h.2.1 k kd n hk).2.moved ha⟩, fun v hv => ⟨(h.2.2 v hv).1, va_Nw.same (xk_nw_tab (h.2.2 v hv).1) hvm (h.2.2 v hv).2⟩⟩
theorem xk_KK.k {w : xk_w} {U : State} (h : xk_KK w U) {k kd n : Nat} (hk : (xk_wS w)[k]? = some (.inl (kd, n))) : va_K (xk_wD w) (xk_wC w) [((xk_wG w).2 k, xk_ty (xk_wR w) kd)] U := ⟨h.1.1, fun j q hq => by
  match j, hq with
  | 0, hq => simp at hq; subst hq; exact h.2.1 k kd n hk⟩
theorem xk_KK.n {w : xk_w} {U : State} (h : xk_KK w U) {v : Cond} (hv : v ∈ xk_wN w) {A : Array Value} : v.before A U = true := va_Nw.use (xk_nw_tab (h.2.2 v hv).1) (h.2.2 v hv).2
/-- the machine's fixed part -/
abbrev xk_K : Type := Program × Launch × Env × Room × State × MethodId × Array Value × List Frame × Method × Code × (Nat → Prop) × Nat × Nat × (State → Prop)
abbrev xk_V (S : Type) : Type := va_G × List vw_C × (S → va_W)
abbrev xk_vw (w : xk_w) : xk_V xk_St := (xk_wD w, (xk_wC w), xk_ws w)
def xk_X {S : Type} (K : xk_K) (V : xk_V S) (σ : S) (pc : Nat) (lv : List (Nat × Value)) (st : List Value) : Prop := match K with
  | (p, l, e, R, s, m, args, below, meth, c, A, cells, slots, Q) => ∀ (H : Heap) (locs : List Loc) (ls : Array Slot), va_P V.1 V.2.1 (V.2.2 σ) H → va_D A (V.2.2 σ) → va_S A s.heap H locs → lv_has ls c.maxLocals lv → W p l e R s m args below meth c H locs cells slots Q (F0 m pc ls st)
/-- the code that runs -/
def xk_E (K : xk_K) (cc : ByteArray) (nL : Nat) : Prop := match K with
  | (p, _, _, _, _, _, _, _, _, c, _, _, _, _) => p.tables.exec = Jvm.exec ∧ c.code = cc ∧ c.maxLocals = nL
def xk_Qc (w : xk_w) (P : Option Value → xk_St → Prop) (A : Nat → Prop) : Array Value → State → Outcome → State → Prop := fun _ st oc t =>
  (∃ (v : Option Value) (τ : xk_St), oc = .returned v ∧ P v τ ∧ va_P (xk_wD w) (xk_wC w) (xk_ws w τ) t.heap) ∧ va_F A st t
/-- all that a method's walk stands on -/
def xk_H (K : xk_K) (w : xk_w) (cc : ByteArray) (nL : Nat) (own : String) (d : Nat) (ret : Option FieldType) (P : Option Value → xk_St → Prop) : Prop := match K with
  | (p, _, _, R, s, m, args, below, meth, c, A, cells, slots, Q) => CallFix p m c cc nL s args (xk_wT w) own ∧ xk_KK w s ∧ (d ≤ R.frames ∧ 40 * d ≤ R.locals) ∧ (meth.sig.returnType = ret ∧ meth.locks = false) ∧ (cells = 0 ∧ slots = 0) ∧ A = xk_A (xk_wS w) (xk_wG w) s.heap.size ∧ Q = MQ below (xk_Qc w P A) args s 0 0 A
def xk_rm (d : Nat) : Room := { frames := d, cells := 0, slots := 0, locals := 40 * d }
abbrev xk_Y : Type := MethodName × ByteArray × Nat × Option FieldType
def xk_M (w : xk_w) (d : Nat) (y : xk_Y) (args : List Value) (σ : xk_St) (P : Option Value → xk_St → Prop) : Prop := ∀ (l : Launch) (sz : Nat),
  Met l y.1 (.code y.1 y.2.1 y.2.2.1 y.2.2.2 :: xk_wT w) (xk_rm d) (va_Pc args (fun U => U.heap.size = sz ∧ va_P (xk_wD w) (xk_wC w) (xk_ws w σ) U.heap ∧ xk_KK w U ∧ va_D (fun _ => True) (xk_ws w σ))) (xk_Qc w P (xk_A (xk_wS w) (xk_wG w) sz)) 0 0 (xk_A (xk_wS w) (xk_wG w) sz)
theorem xk_D_of {w : xk_w} {σ τ : xk_St} {A B : Nat → Prop} (h : va_D A (xk_ws w σ)) (hB : ∀ k, k < (xk_wS w).length → B (xk_wA w k)) : va_D B (xk_ws w τ) := by
  refine ⟨fun i j p q hi hj hpq => ?_, fun k q hk => ?_⟩
  · obtain ⟨si, h1, rfl⟩ := xk_wl_inv hi
    obtain ⟨sj, h2, rfl⟩ := xk_wl_inv hj
    exact h.1 i j _ _ (xk_wl_at h1) (xk_wl_at h2) hpq
  · obtain ⟨sk, h1, rfl⟩ := xk_wl_inv hk
    exact hB k (List.getElem?_eq_some_iff.mp h1).1
theorem xk_D_in {w : xk_w} {σ : xk_St} {A : Nat → Prop} (h : va_D A (xk_ws w σ)) {k : Nat} (hk : k < (xk_wS w).length) : A (xk_wA w k) :=
  h.2 k _ (xk_wl_at (List.getElem?_eq_getElem hk))
theorem xk_enter {w : xk_w} {d : Nat} {y : xk_Y} {args : List Value} {σ : xk_St} {P : Option Value → xk_St → Prop} (hy : plainName y.1.cls = true) (hlen : (lg_sl args).length ≤ y.2.2.1)
    (body : ∀ K : xk_K, xk_E K y.2.1 y.2.2.1 → xk_H K w y.2.1 y.2.2.1 y.1.cls d y.2.2.2 P → xk_X K (xk_vw w) σ 0 (lv_args 0 args) []) : xk_M w d y args σ P := by
  intro l sz
  refine Met.ofW (cc := y.2.1) (maxL := y.2.2.1) (ret := y.2.2.2) hy rfl ?_
  intro p e s m vargs below meth c s₁ B hml hv
  obtain ⟨rfl, hsz, hP, hK, hD0⟩ := hv
  have hts := atoms_spec (ws := .code y.1 y.2.1 y.2.2.1 y.2.2.2 :: xk_wT w) B.pre
  have hown : s.vm.findClass y.1.cls = some m.cls := findClass_of_methodNamed B.named
  subst hsz
  have hD : va_D (xk_A (xk_wS w) (xk_wG w) s.heap.size) (xk_ws w σ) := xk_D_of hD0 (fun k hk => Or.inl ⟨k, hk, rfl⟩)
  have hl := lv_entry args (n := y.2.2.1) hlen
  rw [lg_entry_eq]
  have X := body (p, l, e, (headSpec (.code y.1 y.2.1 y.2.2.1 y.2.2.2 :: xk_wT w) (xk_rm d)).room, s, m, args.toArray, below, meth, c, xk_A (xk_wS w) (xk_wG w) s.heap.size, 0, 0, MQ below (xk_Qc w P (xk_A (xk_wS w) (xk_wG w) s.heap.size)) args.toArray s 0 0 (xk_A (xk_wS w) (xk_wG w) s.heap.size))
    ⟨B.exec, B.bytes, hml⟩ ⟨⟨B.exec, B.bytes, hml, hown, fun w' h => hts w' (List.mem_cons_of_mem _ h)⟩, hK, ⟨Nat.le_refl _, Nat.le_refl _⟩, ⟨B.returns, B.notSynchronized⟩, ⟨rfl, rfl⟩, rfl, rfl⟩
  exact X s.heap [] _ hP hD va_S.rf (hml.symm ▸ hl)
/-- an instruction and the next one's place -/
def xk_d (cc : ByteArray) (pc : Nat) (i : Instr) (n pc' : Nat) : Prop := decode cc pc = .ok (i, n) ∧ pc + n = pc'
/-- a branch: its two goals -/
def xk_b (cc : ByteArray) (pc : Nat) (i : Instr) (pc' : Nat) (off : Int) (tgt : Nat) : Prop := decode cc pc = .ok (i, 3) ∧ pc + 3 = pc' ∧ (pc : Int) + off = (tgt : Int)
section XR
variable {S : Type} {K : xk_K} {V : xk_V S} {σ : S} {cc : ByteArray} {nL pc pc' tgt : Nat} {off : Int} {lv lv' : List (Nat × Value)} {st : List Value}
theorem x_lv (ks : List Nat) (hl : lv_pick lv ks = lv') (k : xk_X K V σ pc lv' st) : xk_X K V σ pc lv st := by
  obtain ⟨p, l, e, R, s, m, args, below, meth, c, A, cells, slots, Q⟩ := K
  intro H locs ls hP hD hS h
  exact k H locs ls hP hD hS (lv_sub h ks hl)
theorem x_iadd {x y : Int32} (hc : xk_E K cc nL) (hd : xk_d cc pc .iadd 1 pc')  (k : xk_X K V σ pc' lv (.int (x + y) :: st)) : xk_X K V σ pc lv (.int y :: .int x :: st) := by
  obtain ⟨p, l, e, R, s, m, args, below, meth, c, A, cells, slots, Q⟩ := K
  obtain ⟨hd, rfl⟩ := hd
  intro H locs ls hP hD hS h
  exact lv_iadd hc.1 hc.2.1 hd  (k H locs ls hP hD hS h)
theorem x_isub {x y : Int32} (hc : xk_E K cc nL) (hd : xk_d cc pc .isub 1 pc')  (k : xk_X K V σ pc' lv (.int (x - y) :: st)) : xk_X K V σ pc lv (.int y :: .int x :: st) := by
  obtain ⟨p, l, e, R, s, m, args, below, meth, c, A, cells, slots, Q⟩ := K
  obtain ⟨hd, rfl⟩ := hd
  intro H locs ls hP hD hS h
  exact lv_isub hc.1 hc.2.1 hd  (k H locs ls hP hD hS h)
theorem x_imul {x y : Int32} (hc : xk_E K cc nL) (hd : xk_d cc pc .imul 1 pc')  (k : xk_X K V σ pc' lv (.int (x * y) :: st)) : xk_X K V σ pc lv (.int y :: .int x :: st) := by
  obtain ⟨p, l, e, R, s, m, args, below, meth, c, A, cells, slots, Q⟩ := K
  obtain ⟨hd, rfl⟩ := hd
  intro H locs ls hP hD hS h
  exact lv_imul hc.1 hc.2.1 hd  (k H locs ls hP hD hS h)
theorem x_iand {x y : Int32} (hc : xk_E K cc nL) (hd : xk_d cc pc .iand 1 pc')  (k : xk_X K V σ pc' lv (.int (x &&& y) :: st)) : xk_X K V σ pc lv (.int y :: .int x :: st) := by
  obtain ⟨p, l, e, R, s, m, args, below, meth, c, A, cells, slots, Q⟩ := K
  obtain ⟨hd, rfl⟩ := hd
  intro H locs ls hP hD hS h
  exact lv_iand hc.1 hc.2.1 hd  (k H locs ls hP hD hS h)
theorem x_ior {x y : Int32} (hc : xk_E K cc nL) (hd : xk_d cc pc .ior 1 pc')  (k : xk_X K V σ pc' lv (.int (x ||| y) :: st)) : xk_X K V σ pc lv (.int y :: .int x :: st) := by
  obtain ⟨p, l, e, R, s, m, args, below, meth, c, A, cells, slots, Q⟩ := K
  obtain ⟨hd, rfl⟩ := hd
  intro H locs ls hP hD hS h
  exact lv_ior hc.1 hc.2.1 hd  (k H locs ls hP hD hS h)
theorem x_ixor {x y : Int32} (hc : xk_E K cc nL) (hd : xk_d cc pc .ixor 1 pc')  (k : xk_X K V σ pc' lv (.int (x ^^^ y) :: st)) : xk_X K V σ pc lv (.int y :: .int x :: st) := by
  obtain ⟨p, l, e, R, s, m, args, below, meth, c, A, cells, slots, Q⟩ := K
  obtain ⟨hd, rfl⟩ := hd
  intro H locs ls hP hD hS h
  exact lv_ixor hc.1 hc.2.1 hd  (k H locs ls hP hD hS h)
theorem x_idiv {x y : Int32} (hc : xk_E K cc nL) (hd : xk_d cc pc .idiv 1 pc') (hne : ¬ y = 0) (k : xk_X K V σ pc' lv (.int (x / y) :: st)) : xk_X K V σ pc lv (.int y :: .int x :: st) := by
  obtain ⟨p, l, e, R, s, m, args, below, meth, c, A, cells, slots, Q⟩ := K
  obtain ⟨hd, rfl⟩ := hd
  intro H locs ls hP hD hS h
  exact lv_idiv hc.1 hc.2.1 hd hne (k H locs ls hP hD hS h)
theorem x_irem {x y : Int32} (hc : xk_E K cc nL) (hd : xk_d cc pc .irem 1 pc') (hne : ¬ y = 0) (k : xk_X K V σ pc' lv (.int (x - x / y * y) :: st)) : xk_X K V σ pc lv (.int y :: .int x :: st) := by
  obtain ⟨p, l, e, R, s, m, args, below, meth, c, A, cells, slots, Q⟩ := K
  obtain ⟨hd, rfl⟩ := hd
  intro H locs ls hP hD hS h
  exact lv_irem hc.1 hc.2.1 hd hne (k H locs ls hP hD hS h)
theorem x_ineg {x : Int32} (hc : xk_E K cc nL) (hd : xk_d cc pc .ineg 1 pc')  (k : xk_X K V σ pc' lv (.int (-x) :: st)) : xk_X K V σ pc lv (.int x :: st) := by
  obtain ⟨p, l, e, R, s, m, args, below, meth, c, A, cells, slots, Q⟩ := K
  obtain ⟨hd, rfl⟩ := hd
  intro H locs ls hP hD hS h
  exact lv_ineg hc.1 hc.2.1 hd  (k H locs ls hP hD hS h)
theorem x_land {x y : Int64} (hc : xk_E K cc nL) (hd : xk_d cc pc .land 1 pc')  (k : xk_X K V σ pc' lv (.long (x &&& y) :: st)) : xk_X K V σ pc lv (.long y :: .long x :: st) := by
  obtain ⟨p, l, e, R, s, m, args, below, meth, c, A, cells, slots, Q⟩ := K
  obtain ⟨hd, rfl⟩ := hd
  intro H locs ls hP hD hS h
  exact lv_land hc.1 hc.2.1 hd  (k H locs ls hP hD hS h)
theorem x_lor {x y : Int64} (hc : xk_E K cc nL) (hd : xk_d cc pc .lor 1 pc')  (k : xk_X K V σ pc' lv (.long (x ||| y) :: st)) : xk_X K V σ pc lv (.long y :: .long x :: st) := by
  obtain ⟨p, l, e, R, s, m, args, below, meth, c, A, cells, slots, Q⟩ := K
  obtain ⟨hd, rfl⟩ := hd
  intro H locs ls hP hD hS h
  exact lv_lor hc.1 hc.2.1 hd  (k H locs ls hP hD hS h)
theorem x_lxor {x y : Int64} (hc : xk_E K cc nL) (hd : xk_d cc pc .lxor 1 pc')  (k : xk_X K V σ pc' lv (.long (x ^^^ y) :: st)) : xk_X K V σ pc lv (.long y :: .long x :: st) := by
  obtain ⟨p, l, e, R, s, m, args, below, meth, c, A, cells, slots, Q⟩ := K
  obtain ⟨hd, rfl⟩ := hd
  intro H locs ls hP hD hS h
  exact lv_lxor hc.1 hc.2.1 hd  (k H locs ls hP hD hS h)
theorem x_lshl {x : Int64} {y : Int32} (hc : xk_E K cc nL) (hd : xk_d cc pc .lshl 1 pc')  (k : xk_X K V σ pc' lv (.long (x <<< (y.toInt64 &&& 63)) :: st)) : xk_X K V σ pc lv (.int y :: .long x :: st) := by
  obtain ⟨p, l, e, R, s, m, args, below, meth, c, A, cells, slots, Q⟩ := K
  obtain ⟨hd, rfl⟩ := hd
  intro H locs ls hP hD hS h
  exact lv_lshl hc.1 hc.2.1 hd rfl (k H locs ls hP hD hS h)
theorem x_lcmp {x y : Int64} (hc : xk_E K cc nL) (hd : xk_d cc pc .lcmp 1 pc')  (k : xk_X K V σ pc' lv (.int (lg_cmp x y) :: st)) : xk_X K V σ pc lv (.long y :: .long x :: st) := by
  obtain ⟨p, l, e, R, s, m, args, below, meth, c, A, cells, slots, Q⟩ := K
  obtain ⟨hd, rfl⟩ := hd
  intro H locs ls hP hD hS h
  exact W.lcmp hc.1 hc.2.1 hd  (k H locs ls hP hD hS h)
theorem x_dup {v : Value} (hc : xk_E K cc nL) (hd : xk_d cc pc .dup 1 pc') (hv : v.category = 1) (k : xk_X K V σ pc' lv (v :: v :: st)) : xk_X K V σ pc lv (v :: st) := by
  obtain ⟨p, l, e, R, s, m, args, below, meth, c, A, cells, slots, Q⟩ := K
  obtain ⟨hd, rfl⟩ := hd
  intro H locs ls hP hD hS h
  exact lv_dup hc.1 hc.2.1 hd hv (k H locs ls hP hD hS h)
theorem x_pop {v : Value} (hc : xk_E K cc nL) (hd : xk_d cc pc .pop 1 pc') (hv : v.category = 1) (k : xk_X K V σ pc' lv st) : xk_X K V σ pc lv (v :: st) := by
  obtain ⟨p, l, e, R, s, m, args, below, meth, c, A, cells, slots, Q⟩ := K
  obtain ⟨hd, rfl⟩ := hd
  intro H locs ls hP hD hS h
  exact lv_pop hc.1 hc.2.1 hd hv (k H locs ls hP hD hS h)
theorem x_dup2 {v u : Value} (hc : xk_E K cc nL) (hd : xk_d cc pc .dup2 1 pc') (hv : v.category = 1) (hu : u.category = 1) (k : xk_X K V σ pc' lv (v :: u :: v :: u :: st)) : xk_X K V σ pc lv (v :: u :: st) := by
  obtain ⟨p, l, e, R, s, m, args, below, meth, c, A, cells, slots, Q⟩ := K
  obtain ⟨hd, rfl⟩ := hd
  intro H locs ls hP hD hS h
  exact lv_dup2_11 hc.1 hc.2.1 hd hv hu (k H locs ls hP hD hS h)
theorem x_dup_x1 {v u : Value} (hc : xk_E K cc nL) (hd : xk_d cc pc .dup_x1 1 pc') (hv : v.category = 1) (hu : u.category = 1) (k : xk_X K V σ pc' lv (v :: u :: v :: st)) : xk_X K V σ pc lv (v :: u :: st) := by
  obtain ⟨p, l, e, R, s, m, args, below, meth, c, A, cells, slots, Q⟩ := K
  obtain ⟨hd, rfl⟩ := hd
  intro H locs ls hP hD hS h
  exact lv_dup_x1 hc.1 hc.2.1 hd hv hu (k H locs ls hP hD hS h)
theorem x_dup_x2 {v u t : Value} (hc : xk_E K cc nL) (hd : xk_d cc pc .dup_x2 1 pc') (hv : v.category = 1) (hu : u.category = 1) (ht : t.category = 1) (k : xk_X K V σ pc' lv (v :: u :: t :: v :: st)) : xk_X K V σ pc lv (v :: u :: t :: st) := by
  obtain ⟨p, l, e, R, s, m, args, below, meth, c, A, cells, slots, Q⟩ := K
  obtain ⟨hd, rfl⟩ := hd
  intro H locs ls hP hD hS h
  exact lv_dup_x2 hc.1 hc.2.1 hd hv hu ht (k H locs ls hP hD hS h)
theorem x_iconst {n : Int} (v : Int32) (hc : xk_E K cc nL) (hd : xk_d cc pc (.iconst n) 1 pc') (hv : Int32.ofInt n = v) (k : xk_X K V σ pc' lv (.int v :: st)) : xk_X K V σ pc lv st := by
  obtain ⟨p, l, e, R, s, m, args, below, meth, c, A, cells, slots, Q⟩ := K
  obtain ⟨hd, rfl⟩ := hd
  intro H locs ls hP hD hS h
  exact lv_iconst hc.1 hc.2.1 hd hv (k H locs ls hP hD hS h)
theorem x_bipush {n : Int} (v : Int32) (hc : xk_E K cc nL) (hd : xk_d cc pc (.bipush n) 2 pc') (hv : (Int8.ofInt n).toInt32 = v) (k : xk_X K V σ pc' lv (.int v :: st)) : xk_X K V σ pc lv st := by
  obtain ⟨p, l, e, R, s, m, args, below, meth, c, A, cells, slots, Q⟩ := K
  obtain ⟨hd, rfl⟩ := hd
  intro H locs ls hP hD hS h
  exact lv_bipush hc.1 hc.2.1 hd hv (k H locs ls hP hD hS h)
theorem x_sipush {n : Int} (v : Int32) (hc : xk_E K cc nL) (hd : xk_d cc pc (.sipush n) 3 pc') (hv : (Int16.ofInt n).toInt32 = v) (k : xk_X K V σ pc' lv (.int v :: st)) : xk_X K V σ pc lv st := by
  obtain ⟨p, l, e, R, s, m, args, below, meth, c, A, cells, slots, Q⟩ := K
  obtain ⟨hd, rfl⟩ := hd
  intro H locs ls hP hD hS h
  exact lv_sipush hc.1 hc.2.1 hd hv (k H locs ls hP hD hS h)
theorem x_lconst {n : Fin 2} (v : Int64) (hc : xk_E K cc nL) (hd : xk_d cc pc (.lconst n) 1 pc') (hv : Int64.ofNat (n : Nat) = v) (k : xk_X K V σ pc' lv (.long v :: st)) : xk_X K V σ pc lv st := by
  obtain ⟨p, l, e, R, s, m, args, below, meth, c, A, cells, slots, Q⟩ := K
  obtain ⟨hd, rfl⟩ := hd
  intro H locs ls hP hD hS h
  exact lv_lconst hc.1 hc.2.1 hd hv (k H locs ls hP hD hS h)
theorem x_iload_n {n : Fin 4} {x : Int32} (hc : xk_E K cc nL) (hd : xk_d cc pc (.iload_n n) 1 pc') (q : Nat) (hq : lv[q]? = some ((n : Nat), .int x)) (k : xk_X K V σ pc' lv (.int x :: st)) : xk_X K V σ pc lv st := by
  obtain ⟨p, l, e, R, s, m, args, below, meth, c, A, cells, slots, Q⟩ := K
  obtain ⟨hd, rfl⟩ := hd
  intro H locs ls hP hD hS h
  exact lv_iload_n hc.1 hc.2.1 hd rfl (lv_at h q hq) (k H locs ls hP hD hS h)
theorem x_iload {i : Nat} {x : Int32} (hc : xk_E K cc nL) (hd : xk_d cc pc (.iload i) 2 pc') (q : Nat) (hq : lv[q]? = some (i, .int x)) (k : xk_X K V σ pc' lv (.int x :: st)) : xk_X K V σ pc lv st := by
  obtain ⟨p, l, e, R, s, m, args, below, meth, c, A, cells, slots, Q⟩ := K
  obtain ⟨hd, rfl⟩ := hd
  intro H locs ls hP hD hS h
  exact lv_iload hc.1 hc.2.1 hd (lv_at h q hq) (k H locs ls hP hD hS h)
theorem x_istore_n {n : Fin 4} {i : Nat} {x : Int32} (lv' : List (Nat × Value)) (hc : xk_E K cc nL) (hd : xk_d cc pc (.istore_n n) 1 pc') (hi : (n : Nat) = i) (hn : i < nL) (hl : (i, Value.int x) :: lv.filter (fun q => !(q.1 == i) && !(q.1 + 1 == i && q.2.category == 2)) = lv') (k : xk_X K V σ pc' lv' st) : xk_X K V σ pc lv (.int x :: st) := by
  obtain ⟨p, l, e, R, s, m, args, below, meth, c, A, cells, slots, Q⟩ := K
  obtain ⟨hd, rfl⟩ := hd
  intro H locs ls hP hD hS h
  exact lv_istore_n hc.1 hc.2.1 hd hi h (hc.2.2.symm ▸ hn) hl (fun ls' h' => k H locs ls' hP hD hS h')
theorem x_istore {i : Nat} {x : Int32} (lv' : List (Nat × Value)) (hc : xk_E K cc nL) (hd : xk_d cc pc (.istore i) 2 pc') (hn : i < nL) (hl : (i, Value.int x) :: lv.filter (fun q => !(q.1 == i) && !(q.1 + 1 == i && q.2.category == 2)) = lv') (k : xk_X K V σ pc' lv' st) : xk_X K V σ pc lv (.int x :: st) := by
  obtain ⟨p, l, e, R, s, m, args, below, meth, c, A, cells, slots, Q⟩ := K
  obtain ⟨hd, rfl⟩ := hd
  intro H locs ls hP hD hS h
  exact lv_istore hc.1 hc.2.1 hd h (hc.2.2.symm ▸ hn) hl (fun ls' h' => k H locs ls' hP hD hS h')
theorem x_lload_n {n : Fin 4} {x : Int64} (hc : xk_E K cc nL) (hd : xk_d cc pc (.lload_n n) 1 pc') (q : Nat) (hq : lv[q]? = some ((n : Nat), .long x)) (k : xk_X K V σ pc' lv (.long x :: st)) : xk_X K V σ pc lv st := by
  obtain ⟨p, l, e, R, s, m, args, below, meth, c, A, cells, slots, Q⟩ := K
  obtain ⟨hd, rfl⟩ := hd
  intro H locs ls hP hD hS h
  exact lv_lload_n hc.1 hc.2.1 hd rfl (lv_at h q hq) (k H locs ls hP hD hS h)
theorem x_lload {i : Nat} {x : Int64} (hc : xk_E K cc nL) (hd : xk_d cc pc (.lload i) 2 pc') (q : Nat) (hq : lv[q]? = some (i, .long x)) (k : xk_X K V σ pc' lv (.long x :: st)) : xk_X K V σ pc lv st := by
  obtain ⟨p, l, e, R, s, m, args, below, meth, c, A, cells, slots, Q⟩ := K
  obtain ⟨hd, rfl⟩ := hd
  intro H locs ls hP hD hS h
  exact lv_lload hc.1 hc.2.1 hd (lv_at h q hq) (k H locs ls hP hD hS h)
theorem x_lstore_n {n : Fin 4} {i : Nat} {x : Int64} (lv' : List (Nat × Value)) (hc : xk_E K cc nL) (hd : xk_d cc pc (.lstore_n n) 1 pc') (hi : (n : Nat) = i) (hn : i + 1 < nL) (hl : (i, Value.long x) :: lv.filter (fun q => !(q.1 == i) && (!(q.1 == i + 1) && !(q.1 + 1 == i && q.2.category == 2))) = lv') (k : xk_X K V σ pc' lv' st) : xk_X K V σ pc lv (.long x :: st) := by
  obtain ⟨p, l, e, R, s, m, args, below, meth, c, A, cells, slots, Q⟩ := K
  obtain ⟨hd, rfl⟩ := hd
  intro H locs ls hP hD hS h
  exact lv_lstore_n hc.1 hc.2.1 hd hi h (hc.2.2.symm ▸ hn) hl (fun ls' h' => k H locs ls' hP hD hS h')
theorem x_lstore {i : Nat} {x : Int64} (lv' : List (Nat × Value)) (hc : xk_E K cc nL) (hd : xk_d cc pc (.lstore i) 2 pc') (hn : i + 1 < nL) (hl : (i, Value.long x) :: lv.filter (fun q => !(q.1 == i) && (!(q.1 == i + 1) && !(q.1 + 1 == i && q.2.category == 2))) = lv') (k : xk_X K V σ pc' lv' st) : xk_X K V σ pc lv (.long x :: st) := by
  obtain ⟨p, l, e, R, s, m, args, below, meth, c, A, cells, slots, Q⟩ := K
  obtain ⟨hd, rfl⟩ := hd
  intro H locs ls hP hD hS h
  exact lv_lstore hc.1 hc.2.1 hd h (hc.2.2.symm ▸ hn) hl (fun ls' h' => k H locs ls' hP hD hS h')
theorem x_aload_n {n : Fin 4} {x : Nat} (hc : xk_E K cc nL) (hd : xk_d cc pc (.aload_n n) 1 pc') (q : Nat) (hq : lv[q]? = some ((n : Nat), .ref x)) (k : xk_X K V σ pc' lv (.ref x :: st)) : xk_X K V σ pc lv st := by
  obtain ⟨p, l, e, R, s, m, args, below, meth, c, A, cells, slots, Q⟩ := K
  obtain ⟨hd, rfl⟩ := hd
  intro H locs ls hP hD hS h
  exact lv_aload_n hc.1 hc.2.1 hd rfl (lv_at h q hq) (k H locs ls hP hD hS h)
theorem x_aload {i : Nat} {x : Nat} (hc : xk_E K cc nL) (hd : xk_d cc pc (.aload i) 2 pc') (q : Nat) (hq : lv[q]? = some (i, .ref x)) (k : xk_X K V σ pc' lv (.ref x :: st)) : xk_X K V σ pc lv st := by
  obtain ⟨p, l, e, R, s, m, args, below, meth, c, A, cells, slots, Q⟩ := K
  obtain ⟨hd, rfl⟩ := hd
  intro H locs ls hP hD hS h
  exact lv_aload hc.1 hc.2.1 hd (lv_at h q hq) (k H locs ls hP hD hS h)
theorem x_astore_n {n : Fin 4} {i : Nat} {x : Nat} (lv' : List (Nat × Value)) (hc : xk_E K cc nL) (hd : xk_d cc pc (.astore_n n) 1 pc') (hi : (n : Nat) = i) (hn : i < nL) (hl : (i, Value.ref x) :: lv.filter (fun q => !(q.1 == i) && !(q.1 + 1 == i && q.2.category == 2)) = lv') (k : xk_X K V σ pc' lv' st) : xk_X K V σ pc lv (.ref x :: st) := by
  obtain ⟨p, l, e, R, s, m, args, below, meth, c, A, cells, slots, Q⟩ := K
  obtain ⟨hd, rfl⟩ := hd
  intro H locs ls hP hD hS h
  exact lv_astore_n hc.1 hc.2.1 hd hi h (hc.2.2.symm ▸ hn) hl (fun ls' h' => k H locs ls' hP hD hS h')
theorem x_astore {i : Nat} {x : Nat} (lv' : List (Nat × Value)) (hc : xk_E K cc nL) (hd : xk_d cc pc (.astore i) 2 pc') (hn : i < nL) (hl : (i, Value.ref x) :: lv.filter (fun q => !(q.1 == i) && !(q.1 + 1 == i && q.2.category == 2)) = lv') (k : xk_X K V σ pc' lv' st) : xk_X K V σ pc lv (.ref x :: st) := by
  obtain ⟨p, l, e, R, s, m, args, below, meth, c, A, cells, slots, Q⟩ := K
  obtain ⟨hd, rfl⟩ := hd
  intro H locs ls hP hD hS h
  exact lv_astore hc.1 hc.2.1 hd h (hc.2.2.symm ▸ hn) hl (fun ls' h' => k H locs ls' hP hD hS h')
theorem x_iinc {i : Nat} {n : Int} {x : Int32} (q : Nat) (v : Int32) (lv' : List (Nat × Value)) (hc : xk_E K cc nL) (hd : xk_d cc pc (.iinc i n) 3 pc') (hq : lv[q]? = some (i, .int x)) (hv : x + Int32.ofInt n = v) (hn : i < nL) (hl : (i, Value.int v) :: lv.filter (fun q => !(q.1 == i) && !(q.1 + 1 == i && q.2.category == 2)) = lv') (k : xk_X K V σ pc' lv' st) : xk_X K V σ pc lv st := by
  obtain ⟨p, l, e, R, s, m, args, below, meth, c, A, cells, slots, Q⟩ := K
  obtain ⟨hd, rfl⟩ := hd
  intro H locs ls hP hD hS h
  exact lv_iinc hc.1 hc.2.1 hd h hq hv (hc.2.2.symm ▸ hn) hl (fun ls' h' => k H locs ls' hP hD hS h')
theorem x_if_eq {x : Int32} (hc : xk_E K cc nL) (hd : xk_b cc pc (.ifCond .eq off) pc' off tgt) (kt : x = 0 → xk_X K V σ tgt lv st) (kf : ¬ x = 0 → xk_X K V σ pc' lv st) : xk_X K V σ pc lv (.int x :: st) := by
  obtain ⟨p, l, e, R, s, m, args, below, meth, c, A, cells, slots, Q⟩ := K
  obtain ⟨hd, rfl, ht⟩ := hd
  intro H locs ls hP hD hS h
  exact lv_if_eq hc.1 hc.2.1 hd ht (fun q => kt q H locs ls hP hD hS h) (fun q => kf q H locs ls hP hD hS h)
theorem x_if_ne {x : Int32} (hc : xk_E K cc nL) (hd : xk_b cc pc (.ifCond .ne off) pc' off tgt) (kt : ¬ x = 0 → xk_X K V σ tgt lv st) (kf : x = 0 → xk_X K V σ pc' lv st) : xk_X K V σ pc lv (.int x :: st) := by
  obtain ⟨p, l, e, R, s, m, args, below, meth, c, A, cells, slots, Q⟩ := K
  obtain ⟨hd, rfl, ht⟩ := hd
  intro H locs ls hP hD hS h
  exact lv_if_ne hc.1 hc.2.1 hd ht (fun q => kt q H locs ls hP hD hS h) (fun q => kf q H locs ls hP hD hS h)
theorem x_if_lt {x : Int32} (hc : xk_E K cc nL) (hd : xk_b cc pc (.ifCond .lt off) pc' off tgt) (kt : x < 0 → xk_X K V σ tgt lv st) (kf : ¬ x < 0 → xk_X K V σ pc' lv st) : xk_X K V σ pc lv (.int x :: st) := by
  obtain ⟨p, l, e, R, s, m, args, below, meth, c, A, cells, slots, Q⟩ := K
  obtain ⟨hd, rfl, ht⟩ := hd
  intro H locs ls hP hD hS h
  exact lv_if_lt hc.1 hc.2.1 hd ht (fun q => kt q H locs ls hP hD hS h) (fun q => kf q H locs ls hP hD hS h)
theorem x_if_ge {x : Int32} (hc : xk_E K cc nL) (hd : xk_b cc pc (.ifCond .ge off) pc' off tgt) (kt : 0 ≤ x → xk_X K V σ tgt lv st) (kf : ¬ 0 ≤ x → xk_X K V σ pc' lv st) : xk_X K V σ pc lv (.int x :: st) := by
  obtain ⟨p, l, e, R, s, m, args, below, meth, c, A, cells, slots, Q⟩ := K
  obtain ⟨hd, rfl, ht⟩ := hd
  intro H locs ls hP hD hS h
  exact lv_if_ge hc.1 hc.2.1 hd ht (fun q => kt q H locs ls hP hD hS h) (fun q => kf q H locs ls hP hD hS h)
theorem x_if_gt {x : Int32} (hc : xk_E K cc nL) (hd : xk_b cc pc (.ifCond .gt off) pc' off tgt) (kt : 0 < x → xk_X K V σ tgt lv st) (kf : ¬ 0 < x → xk_X K V σ pc' lv st) : xk_X K V σ pc lv (.int x :: st) := by
  obtain ⟨p, l, e, R, s, m, args, below, meth, c, A, cells, slots, Q⟩ := K
  obtain ⟨hd, rfl, ht⟩ := hd
  intro H locs ls hP hD hS h
  exact lv_if_gt hc.1 hc.2.1 hd ht (fun q => kt q H locs ls hP hD hS h) (fun q => kf q H locs ls hP hD hS h)
theorem x_if_le {x : Int32} (hc : xk_E K cc nL) (hd : xk_b cc pc (.ifCond .le off) pc' off tgt) (kt : x ≤ 0 → xk_X K V σ tgt lv st) (kf : ¬ x ≤ 0 → xk_X K V σ pc' lv st) : xk_X K V σ pc lv (.int x :: st) := by
  obtain ⟨p, l, e, R, s, m, args, below, meth, c, A, cells, slots, Q⟩ := K
  obtain ⟨hd, rfl, ht⟩ := hd
  intro H locs ls hP hD hS h
  exact lv_if_le hc.1 hc.2.1 hd ht (fun q => kt q H locs ls hP hD hS h) (fun q => kf q H locs ls hP hD hS h)
theorem x_icmp_eq {x y : Int32} (hc : xk_E K cc nL) (hd : xk_b cc pc (.if_icmp .eq off) pc' off tgt) (kt : x = y → xk_X K V σ tgt lv st) (kf : ¬ x = y → xk_X K V σ pc' lv st) : xk_X K V σ pc lv (.int y :: .int x :: st) := by
  obtain ⟨p, l, e, R, s, m, args, below, meth, c, A, cells, slots, Q⟩ := K
  obtain ⟨hd, rfl, ht⟩ := hd
  intro H locs ls hP hD hS h
  exact lv_icmp_eq hc.1 hc.2.1 hd ht (fun q => kt q H locs ls hP hD hS h) (fun q => kf q H locs ls hP hD hS h)
theorem x_icmp_ne {x y : Int32} (hc : xk_E K cc nL) (hd : xk_b cc pc (.if_icmp .ne off) pc' off tgt) (kt : ¬ x = y → xk_X K V σ tgt lv st) (kf : x = y → xk_X K V σ pc' lv st) : xk_X K V σ pc lv (.int y :: .int x :: st) := by
  obtain ⟨p, l, e, R, s, m, args, below, meth, c, A, cells, slots, Q⟩ := K
  obtain ⟨hd, rfl, ht⟩ := hd
  intro H locs ls hP hD hS h
  exact lv_icmp_ne hc.1 hc.2.1 hd ht (fun q => kt q H locs ls hP hD hS h) (fun q => kf q H locs ls hP hD hS h)
theorem x_icmp_lt {x y : Int32} (hc : xk_E K cc nL) (hd : xk_b cc pc (.if_icmp .lt off) pc' off tgt) (kt : x < y → xk_X K V σ tgt lv st) (kf : ¬ x < y → xk_X K V σ pc' lv st) : xk_X K V σ pc lv (.int y :: .int x :: st) := by
  obtain ⟨p, l, e, R, s, m, args, below, meth, c, A, cells, slots, Q⟩ := K
  obtain ⟨hd, rfl, ht⟩ := hd
  intro H locs ls hP hD hS h
  exact lv_icmp_lt hc.1 hc.2.1 hd ht (fun q => kt q H locs ls hP hD hS h) (fun q => kf q H locs ls hP hD hS h)
theorem x_icmp_ge {x y : Int32} (hc : xk_E K cc nL) (hd : xk_b cc pc (.if_icmp .ge off) pc' off tgt) (kt : y ≤ x → xk_X K V σ tgt lv st) (kf : ¬ y ≤ x → xk_X K V σ pc' lv st) : xk_X K V σ pc lv (.int y :: .int x :: st) := by
  obtain ⟨p, l, e, R, s, m, args, below, meth, c, A, cells, slots, Q⟩ := K
  obtain ⟨hd, rfl, ht⟩ := hd
  intro H locs ls hP hD hS h
  exact lv_icmp_ge hc.1 hc.2.1 hd ht (fun q => kt q H locs ls hP hD hS h) (fun q => kf q H locs ls hP hD hS h)
theorem x_icmp_gt {x y : Int32} (hc : xk_E K cc nL) (hd : xk_b cc pc (.if_icmp .gt off) pc' off tgt) (kt : y < x → xk_X K V σ tgt lv st) (kf : ¬ y < x → xk_X K V σ pc' lv st) : xk_X K V σ pc lv (.int y :: .int x :: st) := by
  obtain ⟨p, l, e, R, s, m, args, below, meth, c, A, cells, slots, Q⟩ := K
  obtain ⟨hd, rfl, ht⟩ := hd
  intro H locs ls hP hD hS h
  exact lv_icmp_gt hc.1 hc.2.1 hd ht (fun q => kt q H locs ls hP hD hS h) (fun q => kf q H locs ls hP hD hS h)
theorem x_icmp_le {x y : Int32} (hc : xk_E K cc nL) (hd : xk_b cc pc (.if_icmp .le off) pc' off tgt) (kt : x ≤ y → xk_X K V σ tgt lv st) (kf : ¬ x ≤ y → xk_X K V σ pc' lv st) : xk_X K V σ pc lv (.int y :: .int x :: st) := by
  obtain ⟨p, l, e, R, s, m, args, below, meth, c, A, cells, slots, Q⟩ := K
  obtain ⟨hd, rfl, ht⟩ := hd
  intro H locs ls hP hD hS h
  exact lv_icmp_le hc.1 hc.2.1 hd ht (fun q => kt q H locs ls hP hD hS h) (fun q => kf q H locs ls hP hD hS h)
theorem x_goto (hc : xk_E K cc nL) (hd : xk_b cc pc (.goto off) pc' off tgt) (k : xk_X K V σ tgt lv st) : xk_X K V σ pc lv st := by
  obtain ⟨p, l, e, R, s, m, args, below, meth, c, A, cells, slots, Q⟩ := K
  obtain ⟨hd, rfl, ht⟩ := hd
  intro H locs ls hP hD hS h
  exact lv_goto hc.1 hc.2.1 hd ht (k H locs ls hP hD hS h)
end XR
end
section
/-! THE FRAME, second part: heap, returns, calls; numbers by nI -/
section XN
variable {S : Type} {K : xk_K} {V : xk_V S} {σ : S} {cc : ByteArray} {nL pc pc' tgt : Nat} {off : Int} {lv lv' : List (Nat × Value)} {st : List Value}
theorem xn_icmp_eq {a b : Nat} (hc : xk_E K cc nL) (hd : xk_b cc pc (.if_icmp .eq off) pc' off tgt) (kt : a = b → xk_X K V σ tgt lv st) (kf : a ≠ b → xk_X K V σ pc' lv st) (ha : a < 2 ^ 31 := by omega) (hb : b < 2 ^ 31 := by omega) : xk_X K V σ pc lv (.int (nI b) :: .int (nI a) :: st) :=
  x_icmp_eq hc hd (fun q => kt ((nI_eq ha hb).mp q)) (fun q => kf (fun z => q ((nI_eq ha hb).mpr z)))
theorem xn_icmp_ne {a b : Nat} (hc : xk_E K cc nL) (hd : xk_b cc pc (.if_icmp .ne off) pc' off tgt) (kt : a ≠ b → xk_X K V σ tgt lv st) (kf : a = b → xk_X K V σ pc' lv st) (ha : a < 2 ^ 31 := by omega) (hb : b < 2 ^ 31 := by omega) : xk_X K V σ pc lv (.int (nI b) :: .int (nI a) :: st) :=
  x_icmp_ne hc hd (fun q => kt (fun z => q ((nI_eq ha hb).mpr z))) (fun q => kf ((nI_eq ha hb).mp q))
theorem xn_icmp_lt {a b : Nat} (hc : xk_E K cc nL) (hd : xk_b cc pc (.if_icmp .lt off) pc' off tgt) (kt : a < b → xk_X K V σ tgt lv st) (kf : b ≤ a → xk_X K V σ pc' lv st) (ha : a < 2 ^ 31 := by omega) (hb : b < 2 ^ 31 := by omega) : xk_X K V σ pc lv (.int (nI b) :: .int (nI a) :: st) :=
  x_icmp_lt hc hd (fun q => kt ((nI_ltI ha hb).mp q)) (fun q => kf (by rw [nI_ltI ha hb] at q; omega))
theorem xn_icmp_ge {a b : Nat} (hc : xk_E K cc nL) (hd : xk_b cc pc (.if_icmp .ge off) pc' off tgt) (kt : b ≤ a → xk_X K V σ tgt lv st) (kf : a < b → xk_X K V σ pc' lv st) (ha : a < 2 ^ 31 := by omega) (hb : b < 2 ^ 31 := by omega) : xk_X K V σ pc lv (.int (nI b) :: .int (nI a) :: st) :=
  x_icmp_ge hc hd (fun q => kt ((nI_leI hb ha).mp q)) (fun q => kf (by rw [nI_leI hb ha] at q; omega))
theorem xn_icmp_gt {a b : Nat} (hc : xk_E K cc nL) (hd : xk_b cc pc (.if_icmp .gt off) pc' off tgt) (kt : b < a → xk_X K V σ tgt lv st) (kf : a ≤ b → xk_X K V σ pc' lv st) (ha : a < 2 ^ 31 := by omega) (hb : b < 2 ^ 31 := by omega) : xk_X K V σ pc lv (.int (nI b) :: .int (nI a) :: st) :=
  x_icmp_gt hc hd (fun q => kt ((nI_ltI hb ha).mp q)) (fun q => kf (by rw [nI_ltI hb ha] at q; omega))
theorem xn_icmp_le {a b : Nat} (hc : xk_E K cc nL) (hd : xk_b cc pc (.if_icmp .le off) pc' off tgt) (kt : a ≤ b → xk_X K V σ tgt lv st) (kf : b < a → xk_X K V σ pc' lv st) (ha : a < 2 ^ 31 := by omega) (hb : b < 2 ^ 31 := by omega) : xk_X K V σ pc lv (.int (nI b) :: .int (nI a) :: st) :=
  x_icmp_le hc hd (fun q => kt ((nI_leI ha hb).mp q)) (fun q => kf (by rw [nI_leI ha hb] at q; omega))
theorem xn_z {a : Nat} (h : a < 2 ^ 31) : (nI a = 0 ↔ a = 0) ∧ (nI a < 0 ↔ False) ∧ (0 ≤ nI a ↔ True) ∧ (0 < nI a ↔ 0 < a) ∧ (nI a ≤ 0 ↔ a = 0) := by
  have h0 : (0 : Nat) < 2 ^ 31 := by decide
  refine ⟨?_, ?_, ?_, ?_, ?_⟩
  · rw [← nI_0]; exact nI_eq h h0
  · rw [← nI_0, nI_ltI h h0]; exact ⟨fun q => absurd q (Nat.not_lt_zero _), False.elim⟩
  · rw [← nI_0, nI_leI h0 h]; exact ⟨fun _ => trivial, fun _ => Nat.zero_le _⟩
  · rw [← nI_0]; exact nI_ltI h0 h
  · rw [← nI_0, nI_leI h h0]; omega
theorem xn_if_eq {a : Nat} (hc : xk_E K cc nL) (hd : xk_b cc pc (.ifCond .eq off) pc' off tgt) (kt : a = 0 → xk_X K V σ tgt lv st) (kf : a ≠ 0 → xk_X K V σ pc' lv st) (ha : a < 2 ^ 31 := by omega) : xk_X K V σ pc lv (.int (nI a) :: st) :=
  x_if_eq hc hd (fun q => kt ((xn_z ha).1.mp q)) (fun q => kf (fun z => q ((xn_z ha).1.mpr z)))
theorem xn_if_ne {a : Nat} (hc : xk_E K cc nL) (hd : xk_b cc pc (.ifCond .ne off) pc' off tgt) (kt : a ≠ 0 → xk_X K V σ tgt lv st) (kf : a = 0 → xk_X K V σ pc' lv st) (ha : a < 2 ^ 31 := by omega) : xk_X K V σ pc lv (.int (nI a) :: st) :=
  x_if_ne hc hd (fun q => kt (fun z => q ((xn_z ha).1.mpr z))) (fun q => kf ((xn_z ha).1.mp q))
theorem xn_if_lt {a : Nat} (hc : xk_E K cc nL) (hd : xk_b cc pc (.ifCond .lt off) pc' off tgt) (kt : False → xk_X K V σ tgt lv st) (kf : True → xk_X K V σ pc' lv st) (ha : a < 2 ^ 31 := by omega) : xk_X K V σ pc lv (.int (nI a) :: st) :=
  x_if_lt hc hd (fun q => kt ((xn_z ha).2.1.mp q)) (fun q => kf (trivial))
theorem xn_if_ge {a : Nat} (hc : xk_E K cc nL) (hd : xk_b cc pc (.ifCond .ge off) pc' off tgt) (kt : True → xk_X K V σ tgt lv st) (kf : False → xk_X K V σ pc' lv st) (ha : a < 2 ^ 31 := by omega) : xk_X K V σ pc lv (.int (nI a) :: st) :=
  x_if_ge hc hd (fun q => kt (trivial)) (fun q => kf (q ((xn_z ha).2.2.1.mpr trivial)))
theorem xn_if_gt {a : Nat} (hc : xk_E K cc nL) (hd : xk_b cc pc (.ifCond .gt off) pc' off tgt) (kt : 0 < a → xk_X K V σ tgt lv st) (kf : a = 0 → xk_X K V σ pc' lv st) (ha : a < 2 ^ 31 := by omega) : xk_X K V σ pc lv (.int (nI a) :: st) :=
  x_if_gt hc hd (fun q => kt ((xn_z ha).2.2.2.1.mp q)) (fun q => kf (by rw [(xn_z ha).2.2.2.1] at q; omega))
theorem xn_if_le {a : Nat} (hc : xk_E K cc nL) (hd : xk_b cc pc (.ifCond .le off) pc' off tgt) (kt : a = 0 → xk_X K V σ tgt lv st) (kf : 0 < a → xk_X K V σ pc' lv st) (ha : a < 2 ^ 31 := by omega) : xk_X K V σ pc lv (.int (nI a) :: st) :=
  x_if_le hc hd (fun q => kt ((xn_z ha).2.2.2.2.mp q)) (fun q => kf (by rw [(xn_z ha).2.2.2.2] at q; omega))
theorem nI_inc (a : Nat) : nI a + Int32.ofInt 1 = nI (a + 1) := nI_1 a
theorem nI_dec (a : Nat) (h : 0 < a) : nI a + Int32.ofInt (-1) = nI (a - 1) := sb_m1 h
theorem xn_iadd {a b : Nat} (hc : xk_E K cc nL) (hd : xk_d cc pc .iadd 1 pc') (k : xk_X K V σ pc' lv (.int (nI (a + b)) :: st)) : xk_X K V σ pc lv (.int (nI b) :: .int (nI a) :: st) := x_iadd hc hd (by rw [nI_add]; exact k)
theorem xn_isub {a b : Nat} (hc : xk_E K cc nL) (hd : xk_d cc pc .isub 1 pc') (k : xk_X K V σ pc' lv (.int (nI (a - b)) :: st)) (h : b ≤ a := by omega) : xk_X K V σ pc lv (.int (nI b) :: .int (nI a) :: st) := x_isub hc hd (by rw [pk_sub h]; exact k)
theorem xn_imul {a b : Nat} (hc : xk_E K cc nL) (hd : xk_d cc pc .imul 1 pc') (k : xk_X K V σ pc' lv (.int (nI (a * b)) :: st)) : xk_X K V σ pc lv (.int (nI b) :: .int (nI a) :: st) := x_imul hc hd (by rw [pk_mul]; exact k)
theorem xn_idiv {a b : Nat} (hc : xk_E K cc nL) (hd : xk_d cc pc .idiv 1 pc') (k : xk_X K V σ pc' lv (.int (nI (a / b)) :: st)) (ha : a < 2 ^ 31 := by omega) (h0 : 0 < b := by omega) (hb : b < 2 ^ 31 := by omega) : xk_X K V σ pc lv (.int (nI b) :: .int (nI a) :: st) := x_idiv hc hd (nI_ne0 h0 hb) (by rw [pk_div ha h0 hb]; exact k)
theorem xn_irem {a b : Nat} (hc : xk_E K cc nL) (hd : xk_d cc pc .irem 1 pc') (k : xk_X K V σ pc' lv (.int (nI (a % b)) :: st)) (ha : a < 2 ^ 31 := by omega) (h0 : 0 < b := by omega) (hb : b < 2 ^ 31 := by omega) : xk_X K V σ pc lv (.int (nI b) :: .int (nI a) :: st) := x_irem hc hd (nI_ne0 h0 hb) (by rw [pk_rem ha h0 hb]; exact k)
end XN
section XH
variable {K : xk_K} {w : xk_w} {σ : xk_St} {cc : ByteArray} {nL d pc pc' : Nat} {own : String} {ret : Option FieldType} {P : Option Value → xk_St → Prop} {lv : List (Nat × Value)} {st : List Value}
/-- a kind among the world's, with all that the tables say of it -/
def xk_Cl (w : xk_w) (ci : Nat) (C : String) (T : u_T) (N : Nat) (ty : Nat → FieldType) : Prop := (∀ v ∈ u_ws C T N, v ∈ xk_wT w) ∧ (xk_wC w)[ci]? = some (C, T, N) ∧ (∀ k, k < N → parseFieldDescriptor (T k).2.2.1 = some (ty k)) ∧ (∀ a, a < N → ∀ b, b < N → a ≠ b → (T a).2.1 ≠ (T b).2.1)
theorem x_get {C : String} {T : u_T} {N ci idx k : Nat} {ty : Nat → FieldType} {fks : List xk_FK} {f : xk_FK} (j : Nat) (hc : xk_H K w cc nL own d ret P) (hC : xk_Cl w ci C T N ty) (hj : j < N) (hlink : Cond.fieldLink own idx (T j).1 (T j).2.1 (T j).2.2.1 ∈ (xk_wT w)) (hsh : (xk_wS w)[k]? = some (.inr (ci, fks))) (hf : fks[j]? = some f) (hd : xk_d cc pc (.getfield idx) 3 pc') (kk : xk_X K (xk_vw w) σ pc' lv (xk_fv (xk_wG w).1 σ k j f :: st)) : xk_X K (xk_vw w) σ pc lv (.ref (xk_wA w k) :: st) := by
  obtain ⟨p, l, e, R, s, m, args, below, meth, c, A, cells, slots, Q⟩ := K
  obtain ⟨hd, rfl⟩ := hd
  intro H locs ls hP hD hS h
  exact va_get (D := xk_wD w) (cl := xk_wC w) (ws := xk_ws w σ) hc.1.1 hc.1.2.1 hc.1.2.2.2.2 hC.1 hc.1.2.2.2.1 hc.2.1.1 hP k (xk_wl_at hsh) hC.2.1 j hj (hc.1.2.2.2.2 _ hlink) (fun _ h => h) (by rw [xk_fs_at, hf]; simp) hd (kk H locs ls hP hD hS h)
theorem x_put {C : String} {T : u_T} {N ci idx k : Nat} {ty : Nat → FieldType} {fks : List xk_FK} {v : Int32} (j : Nat) (hc : xk_H K w cc nL own d ret P) (hC : xk_Cl w ci C T N ty) (hj : j < N) (hlink : Cond.fieldLink own idx (T j).1 (T j).2.1 (T j).2.2.1 ∈ (xk_wT w)) (hfin : (T j).2.2.2 = false) (hsh : (xk_wS w)[k]? = some (.inr (ci, fks))) (hf : fks[j]? = some (.inl none)) (hn : narrow (ty j) (.int v) = .int v ∧ fits (ty j) (.int v) = true) (hd : xk_d cc pc (.putfield idx) 3 pc') (kk : xk_X K (xk_vw w) (xk_up σ k j v) pc' lv st) : xk_X K (xk_vw w) σ pc lv (.int v :: .ref (xk_wA w k) :: st) := by
  obtain ⟨p, l, e, R, s, m, args, below, meth, c, A, cells, slots, Q⟩ := K
  obtain ⟨hd, rfl⟩ := hd
  intro H locs ls hP hD hS h
  have hl : j < (xk_fs (xk_wG w).1 σ k 0 fks).length := (List.getElem?_eq_some_iff.mp (show (xk_fs (xk_wG w).1 σ k 0 fks)[j]? = some _ by rw [xk_fs_at, hf]; rfl)).1
  have e1 : (xk_ws w σ).set k (xk_wA w k, .inr (ci, (xk_fs (xk_wG w).1 σ k 0 fks).set j (.int v))) = xk_ws w (xk_up σ k j v) := by
    rw [xk_fs_put v hf]
    exact xk_wl_set (sh := .inr (ci, fks)) hsh (fun i h => xk_up_ne i h)
  refine va_put (D := xk_wD w) (cl := xk_wC w) (ws := xk_ws w σ) hc.1.1 hc.1.2.1 hc.1.2.2.2.2 hC.1 ty hC.2.2.1 hC.2.2.2 hc.1.2.2.2.1 hc.2.1.1 hP hD hS k (xk_wl_at hsh) hC.2.1 j hj (hc.1.2.2.2.2 _ hlink) (fun _ h => h) hfin (hC.2.2.1 j hj) hn.1 hn.2 hl hd (fun H1 locs1 hP1 hD1 hS1 => ?_)
  rw [e1] at hP1 hD1
  exact kk H1 locs1 ls hP1 hD1 hS1 h
theorem x_putL {C : String} {T : u_T} {N ci idx k : Nat} {ty : Nat → FieldType} {fks : List xk_FK} {v : Int64} (j : Nat) (hc : xk_H K w cc nL own d ret P) (hC : xk_Cl w ci C T N ty) (hj : j < N) (hlink : Cond.fieldLink own idx (T j).1 (T j).2.1 (T j).2.2.1 ∈ (xk_wT w)) (hfin : (T j).2.2.2 = false) (hsh : (xk_wS w)[k]? = some (.inr (ci, fks))) (hf : fks[j]? = some (.inr ())) (hn : narrow (ty j) (.long v) = .long v ∧ fits (ty j) (.long v) = true) (hd : xk_d cc pc (.putfield idx) 3 pc') (kk : xk_X K (xk_vw w) (xk_upL σ k j v) pc' lv st) : xk_X K (xk_vw w) σ pc lv (.long v :: .ref (xk_wA w k) :: st) := by
  obtain ⟨p, l, e, R, s, m, args, below, meth, c, A, cells, slots, Q⟩ := K
  obtain ⟨hd, rfl⟩ := hd
  intro H locs ls hP hD hS h
  have hl : j < (xk_fs (xk_wG w).1 σ k 0 fks).length := (List.getElem?_eq_some_iff.mp (show (xk_fs (xk_wG w).1 σ k 0 fks)[j]? = some _ by rw [xk_fs_at, hf]; rfl)).1
  have e1 : (xk_ws w σ).set k (xk_wA w k, .inr (ci, (xk_fs (xk_wG w).1 σ k 0 fks).set j (.long v))) = xk_ws w (xk_upL σ k j v) := by
    rw [xk_fs_putL v hf]
    exact xk_wl_set (sh := .inr (ci, fks)) hsh (fun i h => xk_upL_ne i h)
  refine va_put (D := xk_wD w) (cl := xk_wC w) (ws := xk_ws w σ) hc.1.1 hc.1.2.1 hc.1.2.2.2.2 hC.1 ty hC.2.2.1 hC.2.2.2 hc.1.2.2.2.1 hc.2.1.1 hP hD hS k (xk_wl_at hsh) hC.2.1 j hj (hc.1.2.2.2.2 _ hlink) (fun _ h => h) hfin (hC.2.2.1 j hj) hn.1 hn.2 hl hd (fun H1 locs1 hP1 hD1 hS1 => ?_)
  rw [e1] at hP1 hD1
  exact kk H1 locs1 ls hP1 hD1 hS1 h
theorem x_getN {host : String} {C : String} {T : u_T} {N ci idx k : Nat} {ty : Nat → FieldType} {fks : List xk_FK} {f : xk_FK} (j : Nat) (hc : xk_H K w cc nL own d ret P) (hC : xk_Cl w ci C T N ty) (hj : j < N) (hlink : Cond.fieldLinkNest own idx (T j).1 (T j).2.1 (T j).2.2.1 host ∈ (xk_wN w)) (hsh : (xk_wS w)[k]? = some (.inr (ci, fks))) (hf : fks[j]? = some f) (hd : xk_d cc pc (.getfield idx) 3 pc') (kk : xk_X K (xk_vw w) σ pc' lv (xk_fv (xk_wG w).1 σ k j f :: st)) : xk_X K (xk_vw w) σ pc lv (.ref (xk_wA w k) :: st) := by
  obtain ⟨p, l, e, R, s, m, args, below, meth, c, A, cells, slots, Q⟩ := K
  obtain ⟨hd, rfl⟩ := hd
  intro H locs ls hP hD hS h
  exact va_getN (D := xk_wD w) (cl := xk_wC w) (ws := xk_ws w σ) hc.1.1 hc.1.2.1 hc.1.2.2.2.2 hC.1 hc.1.2.2.2.1 hc.2.1.1 hP k (xk_wl_at hsh) hC.2.1 j hj (hc.2.1.n hlink) (fun _ h => h) (by rw [xk_fs_at, hf]; simp) hd (kk H locs ls hP hD hS h)
theorem x_putN {host : String} {C : String} {T : u_T} {N ci idx k : Nat} {ty : Nat → FieldType} {fks : List xk_FK} {v : Int32} (j : Nat) (hc : xk_H K w cc nL own d ret P) (hC : xk_Cl w ci C T N ty) (hj : j < N) (hlink : Cond.fieldLinkNest own idx (T j).1 (T j).2.1 (T j).2.2.1 host ∈ (xk_wN w)) (hfin : (T j).2.2.2 = false) (hsh : (xk_wS w)[k]? = some (.inr (ci, fks))) (hf : fks[j]? = some (.inl none)) (hn : narrow (ty j) (.int v) = .int v ∧ fits (ty j) (.int v) = true) (hd : xk_d cc pc (.putfield idx) 3 pc') (kk : xk_X K (xk_vw w) (xk_up σ k j v) pc' lv st) : xk_X K (xk_vw w) σ pc lv (.int v :: .ref (xk_wA w k) :: st) := by
  obtain ⟨p, l, e, R, s, m, args, below, meth, c, A, cells, slots, Q⟩ := K
  obtain ⟨hd, rfl⟩ := hd
  intro H locs ls hP hD hS h
  have hl : j < (xk_fs (xk_wG w).1 σ k 0 fks).length := (List.getElem?_eq_some_iff.mp (show (xk_fs (xk_wG w).1 σ k 0 fks)[j]? = some _ by rw [xk_fs_at, hf]; rfl)).1
  have e1 : (xk_ws w σ).set k (xk_wA w k, .inr (ci, (xk_fs (xk_wG w).1 σ k 0 fks).set j (.int v))) = xk_ws w (xk_up σ k j v) := by
    rw [xk_fs_put v hf]
    exact xk_wl_set (sh := .inr (ci, fks)) hsh (fun i h => xk_up_ne i h)
  refine va_putN (D := xk_wD w) (cl := xk_wC w) (ws := xk_ws w σ) hc.1.1 hc.1.2.1 hc.1.2.2.2.2 hC.1 ty hC.2.2.1 hC.2.2.2 hc.1.2.2.2.1 hc.2.1.1 hP hD hS k (xk_wl_at hsh) hC.2.1 j hj (hc.2.1.n hlink) (fun _ h => h) hfin (hC.2.2.1 j hj) hn.1 hn.2 hl hd (fun H1 locs1 hP1 hD1 hS1 => ?_)
  rw [e1] at hP1 hD1
  exact kk H1 locs1 ls hP1 hD1 hS1 h
theorem x_putLN {host : String} {C : String} {T : u_T} {N ci idx k : Nat} {ty : Nat → FieldType} {fks : List xk_FK} {v : Int64} (j : Nat) (hc : xk_H K w cc nL own d ret P) (hC : xk_Cl w ci C T N ty) (hj : j < N) (hlink : Cond.fieldLinkNest own idx (T j).1 (T j).2.1 (T j).2.2.1 host ∈ (xk_wN w)) (hfin : (T j).2.2.2 = false) (hsh : (xk_wS w)[k]? = some (.inr (ci, fks))) (hf : fks[j]? = some (.inr ())) (hn : narrow (ty j) (.long v) = .long v ∧ fits (ty j) (.long v) = true) (hd : xk_d cc pc (.putfield idx) 3 pc') (kk : xk_X K (xk_vw w) (xk_upL σ k j v) pc' lv st) : xk_X K (xk_vw w) σ pc lv (.long v :: .ref (xk_wA w k) :: st) := by
  obtain ⟨p, l, e, R, s, m, args, below, meth, c, A, cells, slots, Q⟩ := K
  obtain ⟨hd, rfl⟩ := hd
  intro H locs ls hP hD hS h
  have hl : j < (xk_fs (xk_wG w).1 σ k 0 fks).length := (List.getElem?_eq_some_iff.mp (show (xk_fs (xk_wG w).1 σ k 0 fks)[j]? = some _ by rw [xk_fs_at, hf]; rfl)).1
  have e1 : (xk_ws w σ).set k (xk_wA w k, .inr (ci, (xk_fs (xk_wG w).1 σ k 0 fks).set j (.long v))) = xk_ws w (xk_upL σ k j v) := by
    rw [xk_fs_putL v hf]
    exact xk_wl_set (sh := .inr (ci, fks)) hsh (fun i h => xk_upL_ne i h)
  refine va_putN (D := xk_wD w) (cl := xk_wC w) (ws := xk_ws w σ) hc.1.1 hc.1.2.1 hc.1.2.2.2.2 hC.1 ty hC.2.2.1 hC.2.2.2 hc.1.2.2.2.1 hc.2.1.1 hP hD hS k (xk_wl_at hsh) hC.2.1 j hj (hc.2.1.n hlink) (fun _ h => h) hfin (hC.2.2.1 j hj) hn.1 hn.2 hl hd (fun H1 locs1 hP1 hD1 hS1 => ?_)
  rw [e1] at hP1 hD1
  exact kk H1 locs1 ls hP1 hD1 hS1 h
theorem x_iald {k n i : Nat} {x : Int32} (hc : xk_H K w cc nL own d ret P) (hsh : (xk_wS w)[k]? = some (.inl (0, n))) (hx : x = nI i) (hi : i < n) (hn : n < 2 ^ 31) (hd : xk_d cc pc .iaload 1 pc') {v : Int32} (hv : σ.1 k i = v) (kk : xk_X K (xk_vw w) σ pc' lv (.int v :: st)) : xk_X K (xk_vw w) σ pc lv (.int x :: .ref (xk_wA w k) :: st) := by
  obtain ⟨p, l, e, R, s, m, args, below, meth, c, A, cells, slots, Q⟩ := K
  obtain ⟨hd, rfl⟩ := hd
  intro H locs ls hP hD hS h
  subst hx
  refine va_iald (D := xk_wD w) (cl := xk_wC w) (ws := xk_ws w σ) (f := σ.1 k) hc.1.1 hc.1.2.1 (hc.2.1.k hsh) hP k 0 (xk_wl_at hsh) rfl (vp_in_nI hi hn) hd ?_
  rw [nI_clamp (Nat.lt_trans hi hn), hv]
  exact kk H locs ls hP hD hS h
theorem x_zald {k n i : Nat} {x : Int32} (hc : xk_H K w cc nL own d ret P) (hsh : (xk_wS w)[k]? = some (.inl (1, n))) (hx : x = nI i) (hi : i < n) (hn : n < 2 ^ 31) (hd : xk_d cc pc .baload 1 pc') {v : Int32} (hv : σ.1 k i = v) (kk : xk_X K (xk_vw w) σ pc' lv (.int v :: st)) : xk_X K (xk_vw w) σ pc lv (.int x :: .ref (xk_wA w k) :: st) := by
  obtain ⟨p, l, e, R, s, m, args, below, meth, c, A, cells, slots, Q⟩ := K
  obtain ⟨hd, rfl⟩ := hd
  intro H locs ls hP hD hS h
  subst hx
  refine va_zald (D := xk_wD w) (cl := xk_wC w) (ws := xk_ws w σ) (f := σ.1 k) hc.1.1 hc.1.2.1 (hc.2.1.k hsh) hP k 0 (xk_wl_at hsh) rfl (vp_in_nI hi hn) hd ?_
  rw [nI_clamp (Nat.lt_trans hi hn), hv]
  exact kk H locs ls hP hD hS h
theorem x_iast {k n i : Nat} {x v : Int32} (hc : xk_H K w cc nL own d ret P) (hsh : (xk_wS w)[k]? = some (.inl (0, n))) (hx : x = nI i) (hi : i < n) (hn : n < 2 ^ 31) (hd : xk_d cc pc .iastore 1 pc') (kk : xk_X K (xk_vw w) (xk_up σ k i v) pc' lv st) : xk_X K (xk_vw w) σ pc lv (.int v :: .int x :: .ref (xk_wA w k) :: st) := by
  obtain ⟨p, l, e, R, s, m, args, below, meth, c, A, cells, slots, Q⟩ := K
  obtain ⟨hd, rfl⟩ := hd
  intro H locs ls hP hD hS h
  subst hx
  have e1 : (xk_ws w σ).set k (xk_wA w k, .inl ((xk_wG w).2 k, n, .inl (upd (σ.1 k) i v))) = xk_ws w (xk_up σ k i v) := by
    have e2 : upd (σ.1 k) i v = (xk_up σ k i v).1 k := by funext b; simp [upd, xk_up]
    rw [e2]
    exact xk_wl_set (sh := .inl (0, n)) hsh (fun i h => xk_up_ne i h)
  refine va_iast (D := xk_wD w) (cl := xk_wC w) (ws := xk_ws w σ) (f := σ.1 k) hc.1.1 hc.1.2.1 (hc.2.1.k hsh) hP hD hS k 0 (xk_wl_at hsh) rfl (vp_in_nI hi hn) hd (fun H1 locs1 hP1 hD1 hS1 => ?_)
  rw [nI_clamp (Nat.lt_trans hi hn), e1] at hP1 hD1
  exact kk H1 locs1 ls hP1 hD1 hS1 h
theorem x_zast {k n i : Nat} {x v : Int32} (hc : xk_H K w cc nL own d ret P) (hsh : (xk_wS w)[k]? = some (.inl (1, n))) (hx : x = nI i) (hi : i < n) (hn : n < 2 ^ 31) (hv : vp_nar .boolean v = v) (hd : xk_d cc pc .bastore 1 pc') (kk : xk_X K (xk_vw w) (xk_up σ k i v) pc' lv st) : xk_X K (xk_vw w) σ pc lv (.int v :: .int x :: .ref (xk_wA w k) :: st) := by
  obtain ⟨p, l, e, R, s, m, args, below, meth, c, A, cells, slots, Q⟩ := K
  obtain ⟨hd, rfl⟩ := hd
  intro H locs ls hP hD hS h
  subst hx
  have e1 : (xk_ws w σ).set k (xk_wA w k, .inl ((xk_wG w).2 k, n, .inl (upd (σ.1 k) i v))) = xk_ws w (xk_up σ k i v) := by
    have e2 : upd (σ.1 k) i v = (xk_up σ k i v).1 k := by funext b; simp [upd, xk_up]
    rw [e2]
    exact xk_wl_set (sh := .inl (1, n)) hsh (fun i h => xk_up_ne i h)
  refine va_zast (D := xk_wD w) (cl := xk_wC w) (ws := xk_ws w σ) (f := σ.1 k) hc.1.1 hc.1.2.1 (hc.2.1.k hsh) hP hD hS k 0 (xk_wl_at hsh) rfl (vp_in_nI hi hn) hd (fun H1 locs1 hP1 hD1 hS1 => ?_)
  rw [nI_clamp (Nat.lt_trans hi hn), hv, e1] at hP1 hD1
  exact kk H1 locs1 ls hP1 hD1 hS1 h
theorem x_aald {k n i b : Nat} {x : Int32} (hc : xk_H K w cc nL own d ret P) (hsh : (xk_wS w)[k]? = some (.inl (b + 2, n))) (hx : x = nI i) (hi : i < n) (hn : n < 2 ^ 31) (hd : xk_d cc pc .aaload 1 pc') (kk : xk_X K (xk_vw w) σ pc' lv (.ref (xk_wA w (b + i)) :: st)) : xk_X K (xk_vw w) σ pc lv (.int x :: .ref (xk_wA w k) :: st) := by
  obtain ⟨p, l, e, R, s, m, args, below, meth, c, A, cells, slots, Q⟩ := K
  obtain ⟨hd, rfl⟩ := hd
  intro H locs ls hP hD hS h
  subst hx
  refine va_aldq (D := xk_wD w) (cl := xk_wC w) (ws := xk_ws w σ) (f := fun u => some (xk_wA w (b + u))) hc.1.1 hc.1.2.1 (hc.2.1.k hsh) hP k 0 (xk_wl_at hsh) rfl (vp_in_nI hi hn) hd ?_
  rw [nI_clamp (Nat.lt_trans hi hn)]
  exact kk H locs ls hP hD hS h
theorem x_alen {k n kd : Nat} (hc : xk_H K w cc nL own d ret P) (hsh : (xk_wS w)[k]? = some (.inl (kd, n))) (hd : xk_d cc pc .arraylength 1 pc') (kk : xk_X K (xk_vw w) σ pc' lv (.int (nI n) :: st)) : xk_X K (xk_vw w) σ pc lv (.ref (xk_wA w k) :: st) := by
  obtain ⟨p, l, e, R, s, m, args, below, meth, c, A, cells, slots, Q⟩ := K
  obtain ⟨hd, rfl⟩ := hd
  intro H locs ls hP hD hS h
  exact va_alen (D := xk_wD w) (cl := xk_wC w) (ws := xk_ws w σ) (v := nI n) hc.1.1 hc.1.2.1 (hc.2.1.k hsh) hP k 0 (xk_wl_at hsh) rfl rfl hd (kk H locs ls hP hD hS h)
theorem x_ireturn {v : Int32} (hc : xk_H K w cc nL own d (some .int) P) (hd : xk_d cc pc .ireturn 1 pc') (hp : P (some (.int v)) σ) : xk_X K (xk_vw w) σ pc lv [.int v] := by
  obtain ⟨p, l, e, R, s, m, args, below, meth, c, A, cells, slots, Q⟩ := K
  obtain ⟨hf, hKK, -, ⟨hr, hlk⟩, ⟨rfl, rfl⟩, rfl, rfl⟩ := hc
  intro H locs ls hP hD hS h
  exact W.iret hf.1 hf.2.1 hr (fun t ht hW => ⟨⟨some (.int v), σ, rfl, hp, by rw [ht]; exact hP⟩, hS.F ht⟩) hS.2.2 hd.1 hlk
theorem x_zreturn {v : Int32} (hc : xk_H K w cc nL own d (some .boolean) P) (hd : xk_d cc pc .ireturn 1 pc') (hn : narrow .boolean (.int v) = .int v) (hp : P (some (.int v)) σ) : xk_X K (xk_vw w) σ pc lv [.int v] := by
  obtain ⟨p, l, e, R, s, m, args, below, meth, c, A, cells, slots, Q⟩ := K
  obtain ⟨hf, hKK, -, ⟨hr, hlk⟩, ⟨rfl, rfl⟩, rfl, rfl⟩ := hc
  intro H locs ls hP hD hS h
  exact W.zret hf.1 hf.2.1 hr hn (fun t ht hW => ⟨⟨some (.int v), σ, rfl, hp, by rw [ht]; exact hP⟩, hS.F ht⟩) hS.2.2 hd.1 hlk
theorem x_lreturn {v : Int64} (hc : xk_H K w cc nL own d (some .long) P) (hd : xk_d cc pc .lreturn 1 pc') (hp : P (some (.long v)) σ) : xk_X K (xk_vw w) σ pc lv [.long v] := by
  obtain ⟨p, l, e, R, s, m, args, below, meth, c, A, cells, slots, Q⟩ := K
  obtain ⟨hf, hKK, -, ⟨hr, hlk⟩, ⟨rfl, rfl⟩, rfl, rfl⟩ := hc
  intro H locs ls hP hD hS h
  exact W.lret hf.1 hf.2.1 hr (fun t ht hW => ⟨⟨some (.long v), σ, rfl, hp, by rw [ht]; exact hP⟩, hS.F ht⟩) hS.2.2 hd.1 hlk
theorem x_vreturn (hc : xk_H K w cc nL own d none P) (hd : xk_d cc pc .return_ 1 pc') (hp : P none σ) : xk_X K (xk_vw w) σ pc lv [] := by
  obtain ⟨p, l, e, R, s, m, args, below, meth, c, A, cells, slots, Q⟩ := K
  obtain ⟨hf, hKK, -, ⟨hr, hlk⟩, ⟨rfl, rfl⟩, rfl, rfl⟩ := hc
  intro H locs ls hP hD hS h
  exact W.vret hf.1 hf.2.1 hr (fun t ht hW => ⟨⟨none, σ, rfl, hp, by rw [ht]; exact hP⟩, hS.F ht⟩) hS.2.2 hd.1 hlk
end XH
section XC
variable {p : Program} {l : Launch} {e : Env} {R : Room} {s : State} {m : MethodId} {args : Array Value} {below : List Frame} {meth : Method} {c : Code} {H : Heap} {locs : List Loc} {cells slots : Nat} {Q : State → Prop}
variable {pc : Nat} {ls : Array Slot} {rest st0 : List Value} {a : Array Value} {A0 A1 : Nat → Prop} {H0 : Heap} {free : Addr → Prop}
/-- behind a call: the world that the callee leaves -/
theorem xk_on {w : xk_w} {P : Option Value → xk_St → Prop} (hr : va_Run p l e R s m args below meth c H locs cells slots 0 0 (F0 m pc ls st0) rest (xk_Qc w P A1 a) free) (hS : va_S A0 H0 H locs) (hA : ∀ q, q < H.size → A1 q → A0 q) (hf : ∀ q, free q → A0 q)
    (kk : ∀ (v : Option Value) (τ : xk_St) (H1 : Heap) (locs1 : List Loc), P v τ → va_P (xk_wD w) (xk_wC w) (xk_ws w τ) H1 → (∀ q : Nat, q < H.size → ¬ A1 q → H1[q]? = H[q]?) → va_S A0 H0 H1 locs1 → W p l e R s m args below meth c H1 locs1 cells slots Q (F0 m (pc + 3) ls (v.toList ++ rest))) : W p l e R s m args below meth c H locs cells slots Q (F0 m pc ls st0) := by
  intro T hT X
  obtain ⟨v, st₀, t, T', L, h0, X', hL, e1, e2, ⟨⟨v', τ, hv, hp, hP⟩, hz, hk⟩, st⟩ := hr T hT X
  cases hv
  rw [h0] at hz hk
  obtain ⟨t2, a1, b1⟩ := kk v τ T'.heap (locs ++ L) hp (by rw [e1]; exact hP) (fun q h1 h2 => by rw [e1]; exact hk q h1 h2)
    ⟨Nat.le_trans hS.1 (by rw [e1]; exact hz), fun q h1 h2 => by rw [e1, hk q (Nat.lt_of_lt_of_le h1 hS.1) (fun z => h2 (hA q (Nat.lt_of_lt_of_le h1 hS.1) z))]; exact hS.2.1 q h1 h2, fun q hq => by
      rcases List.mem_append.mp hq with h | h
      · exact hS.2.2 q h
      · exact hf _ (hL q h)⟩ T' rfl X'
  exact ⟨t2, st t2 a1, b1⟩
end XC
section XI
variable {K : xk_K} {w : xk_w} {σ : xk_St} {cc : ByteArray} {nL d d' pc pc' idx n : Nat} {own host : String} {ret : Option FieldType} {P P' : Option Value → xk_St → Prop} {lv : List (Nat × Value)} {st As : List Value} {y : xk_Y}
def xk_good (w : xk_w) : Prop := ∀ v ∈ (xk_wT w), (v.onTables && v.keeps) = true ∨ ∃ ty, v = .arrayClass ty
theorem xk_goodIn (hg : xk_good w) (hcode : Cond.code y.1 y.2.1 y.2.2.1 y.2.2.2 ∈ xk_wT w) : GoodIn (xk_wT w) (Cond.code y.1 y.2.1 y.2.2.1 y.2.2.2 :: xk_wT w) := by
  intro v hv
  rcases List.mem_cons.mp hv with rfl | h
  · exact ⟨hcode, hg _ hcode⟩
  · exact ⟨h, hg _ h⟩
/-- what the tables say of a method that is called -/
def xk_CY (w : xk_w) (y : xk_Y) (n : Nat) : Prop := Cond.code y.1 y.2.1 y.2.2.1 y.2.2.2 ∈ (xk_wT w) ∧ Cond.initialized y.1.cls ∈ (xk_wT w) ∧ (y.1.cls ≠ "java/lang/invoke/MethodHandle" ∧ y.1.cls ≠ "java/lang/invoke/VarHandle" ∧ (parseMethodDescriptor y.1.desc).map (fun d => d.parameters.length) = some n) ∧ y.2.2.1 ≤ 21
theorem xk_pre {s : State} {H : Heap} {args : List Value} (hKK : xk_KK w s) (hP : va_P (xk_wD w) (xk_wC w) (xk_ws w σ) H) {A : Nat → Prop} (hD : va_D A (xk_ws w σ)) : PreS s H (va_Pc args (fun U => U.heap.size = H.size ∧ va_P (xk_wD w) (xk_wC w) (xk_ws w σ) U.heap ∧ xk_KK w U ∧ va_D (fun _ => True) (xk_ws w σ))) args :=
  ⟨fun a U g mk q => by obtain ⟨q0, q1, qP, qK, qD⟩ := q; exact ⟨q0, q1, qP, xk_KK.same (u := U) (U := U.calling g mk a) rfl qK, qD⟩, fun U hU hW => ⟨rfl, by rw [hU], by rw [hU]; exact hP, hKK.moved hW, hD.weaken (fun _ _ _ _ => trivial)⟩⟩
theorem xk_sub {s : State} {H : Heap} {A : Nat → Prop} {locs : List Loc} (hD : va_D A (xk_ws w σ)) (hS : va_S A s.heap H locs) (hA : ∀ q, s.heap.size ≤ q → A q) : ∀ q, xk_A (xk_wS w) (xk_wG w) H.size q → A q := by
  intro q h
  rcases h with ⟨k, hk, rfl⟩ | h
  · exact xk_D_in hD hk
  · exact hA q (Nat.le_trans hS.1 h)
theorem x_callVN {k ci N : Nat} {T : u_T} {fks : List xk_FK} (hc : xk_H K w cc nL own d ret P) (hg : xk_good w) (hy : xk_CY w y n) (hlink : Cond.methodLinkNest own idx y.1 host ∈ (xk_wN w)) (hsh : (xk_wS w)[k]? = some (.inr (ci, fks))) (hcl : (xk_wC w)[ci]? = some (y.1.cls, T, N)) (hin : Cond.instanceMethod y.1 ∈ xk_wT w) (hsel : Cond.selects y.1.cls y.1 y.1 ∈ xk_wT w) (hM : xk_M w d' y (.ref (xk_wA w k) :: As) σ P') (hdd : d' + 1 ≤ d) (hn : As.length = n) (hst : (st.map fun v => v.category).sum ≤ 8) (hd : xk_d cc pc (.invokevirtual idx) 3 pc') (kk : ∀ (v : Option Value) (τ : xk_St), P' v τ → xk_X K (xk_vw w) τ pc' lv (v.toList ++ st)) : xk_X K (xk_vw w) σ pc lv (As.reverse ++ .ref (xk_wA w k) :: st) := by
  obtain ⟨p, l, e, R, s, m, args, below, meth, c, A, cells, slots, Q⟩ := K
  obtain ⟨hd, rfl⟩ := hd
  intro H locs ls hP hD hS h
  have hA : ∀ q, s.heap.size ≤ q → A q := fun q h => by rw [hc.2.2.2.2.2.1]; exact Or.inr h
  have hF := xk_sub hD hS hA
  have hrm : 8 + (y.2.2.1 + 11) + (xk_rm d').locals ≤ R.locals := by
    have h1 := hc.2.2.1.2
    have h2 := hy.2.2.2
    show 8 + (y.2.2.1 + 11) + 40 * d' ≤ R.locals
    omega
  obtain ⟨hcl0, hsl0⟩ := hc.2.2.2.2.1
  refine xk_on (va_runVN (As := As) (rest := st) ⟨hc.1.1, hc.1.2.1, rfl, hc.1.2.2.2.1, hc.1.2.2.2.2⟩ (hM l H.size) ⟨va_cnB (host := host) n hc.1.2.2.2.2 (xk_goodIn hg hy.1) rfl rfl rfl (hc.2.1.n hlink) (hc.1.2.2.2.2 _ hy.2.1) hy.2.2.1 ⟨Nat.le_trans hdd hc.2.2.1.1, hrm⟩, hc.1.2.2.2.2 _ hin, hc.1.2.2.2.2 _ hsel⟩ ⟨(xk_pre (args := []) hc.2.1 hP hD).1 |> fun _ => (xk_pre (args := .ref (xk_wA w k) :: As) hc.2.1 hP hD).1, va_recv hc.2.1.1 hP hcl (xk_wl_at hsh), (xk_pre (args := .ref (xk_wA w k) :: As) hc.2.1 hP hD).2⟩ rfl hn h.1 rfl (lv_room hst) hd ⟨by rw [hcl0]; exact Nat.zero_le _, by rw [hsl0]; exact Nat.zero_le _⟩) hS (fun q _ h => hF q h) hF (fun v τ H1 locs1 hp hP1 _ hS1 => ?_)
  exact kk v τ hp H1 locs1 ls hP1 (xk_D_of hD (fun k hk => xk_D_in hD hk)) hS1 h
theorem x_callSN (hc : xk_H K w cc nL own d ret P) (hg : xk_good w) (hy : xk_CY w y n) (hlink : Cond.methodLinkNest own idx y.1 host ∈ (xk_wN w)) (hstat : Cond.static y.1 ∈ xk_wT w) (hM : xk_M w d' y As σ P') (hdd : d' + 1 ≤ d) (hn : As.length = n) (hst : (st.map fun v => v.category).sum ≤ 8) (hd : xk_d cc pc (.invokestatic idx) 3 pc') (kk : ∀ (v : Option Value) (τ : xk_St), P' v τ → xk_X K (xk_vw w) τ pc' lv (v.toList ++ st)) : xk_X K (xk_vw w) σ pc lv (As.reverse ++ st) := by
  obtain ⟨p, l, e, R, s, m, args, below, meth, c, A, cells, slots, Q⟩ := K
  obtain ⟨hd, rfl⟩ := hd
  intro H locs ls hP hD hS h
  have hA : ∀ q, s.heap.size ≤ q → A q := fun q h => by rw [hc.2.2.2.2.2.1]; exact Or.inr h
  have hF := xk_sub hD hS hA
  have hrm : 8 + (y.2.2.1 + 11) + (xk_rm d').locals ≤ R.locals := by
    have h1 := hc.2.2.1.2
    have h2 := hy.2.2.2
    show 8 + (y.2.2.1 + 11) + 40 * d' ≤ R.locals
    omega
  obtain ⟨hcl0, hsl0⟩ := hc.2.2.2.2.1
  refine xk_on (va_runSN (As := As) (rest := st) ⟨hc.1.1, hc.1.2.1, rfl, hc.1.2.2.2.1, hc.1.2.2.2.2⟩ (hM l H.size) ⟨va_cnB (host := host) n hc.1.2.2.2.2 (xk_goodIn hg hy.1) rfl rfl rfl (hc.2.1.n hlink) (hc.1.2.2.2.2 _ hy.2.1) hy.2.2.1 ⟨Nat.le_trans hdd hc.2.2.1.1, hrm⟩, hc.1.2.2.2.2 _ hstat, trivial⟩ (xk_pre hc.2.1 hP hD) rfl hn h.1 rfl (lv_room hst) hd ⟨by rw [hcl0]; exact Nat.zero_le _, by rw [hsl0]; exact Nat.zero_le _⟩) hS (fun q _ h => hF q h) hF (fun v τ H1 locs1 hp hP1 _ hS1 => ?_)
  exact kk v τ hp H1 locs1 ls hP1 (xk_D_of hD (fun k hk => xk_D_in hD hk)) hS1 h
theorem x_callV {k ci N : Nat} {T : u_T} {fks : List xk_FK} (hc : xk_H K w cc nL own d ret P) (hg : xk_good w) (hy : xk_CY w y n) (hlink : Cond.methodLink own idx y.1 ∈ (xk_wT w)) (hsh : (xk_wS w)[k]? = some (.inr (ci, fks))) (hcl : (xk_wC w)[ci]? = some (y.1.cls, T, N)) (hin : Cond.instanceMethod y.1 ∈ xk_wT w) (hsel : Cond.selects y.1.cls y.1 y.1 ∈ xk_wT w) (hM : xk_M w d' y (.ref (xk_wA w k) :: As) σ P') (hdd : d' + 1 ≤ d) (hn : As.length = n) (hst : (st.map fun v => v.category).sum ≤ 8) (hd : xk_d cc pc (.invokevirtual idx) 3 pc') (kk : ∀ (v : Option Value) (τ : xk_St), P' v τ → xk_X K (xk_vw w) τ pc' lv (v.toList ++ st)) : xk_X K (xk_vw w) σ pc lv (As.reverse ++ .ref (xk_wA w k) :: st) := by
  obtain ⟨p, l, e, R, s, m, args, below, meth, c, A, cells, slots, Q⟩ := K
  obtain ⟨hd, rfl⟩ := hd
  intro H locs ls hP hD hS h
  have hA : ∀ q, s.heap.size ≤ q → A q := fun q h => by rw [hc.2.2.2.2.2.1]; exact Or.inr h
  have hF := xk_sub hD hS hA
  have hrm : 8 + (y.2.2.1 + 11) + (xk_rm d').locals ≤ R.locals := by
    have h1 := hc.2.2.1.2
    have h2 := hy.2.2.2
    show 8 + (y.2.2.1 + 11) + 40 * d' ≤ R.locals
    omega
  obtain ⟨hcl0, hsl0⟩ := hc.2.2.2.2.1
  have hCB : CallB R s args own idx y.1 y.2.1 y.2.2.1 y.2.2.2 (Cond.code y.1 y.2.1 y.2.2.1 y.2.2.2 :: xk_wT w) (xk_rm d') 0 0 n := callB_of n hc.1.2.2.2.2 (xk_goodIn hg hy.1) rfl rfl rfl (hc.1.2.2.2.2 _ hy.2.1) (hc.1.2.2.2.2 _ hlink) hy.2.2.1 ⟨Nat.le_trans hdd hc.2.2.1.1, hrm⟩
  refine xk_on (va_runV (As := As) (rest := st) ⟨hc.1.1, hc.1.2.1, rfl, hc.1.2.2.2.1, hc.1.2.2.2.2⟩ (hM l H.size) ⟨hCB, hc.1.2.2.2.2 _ hin, hc.1.2.2.2.2 _ hsel⟩ ⟨(xk_pre (args := []) hc.2.1 hP hD).1 |> fun _ => (xk_pre (args := .ref (xk_wA w k) :: As) hc.2.1 hP hD).1, va_recv hc.2.1.1 hP hcl (xk_wl_at hsh), (xk_pre (args := .ref (xk_wA w k) :: As) hc.2.1 hP hD).2⟩ rfl hn h.1 rfl (lv_room hst) hd ⟨by rw [hcl0]; exact Nat.zero_le _, by rw [hsl0]; exact Nat.zero_le _⟩) hS (fun q _ h => hF q h) hF (fun v τ H1 locs1 hp hP1 _ hS1 => ?_)
  exact kk v τ hp H1 locs1 ls hP1 (xk_D_of hD (fun k hk => xk_D_in hD hk)) hS1 h
theorem x_callS (hc : xk_H K w cc nL own d ret P) (hg : xk_good w) (hy : xk_CY w y n) (hlink : Cond.methodLink own idx y.1 ∈ (xk_wT w)) (hstat : Cond.static y.1 ∈ xk_wT w) (hM : xk_M w d' y As σ P') (hdd : d' + 1 ≤ d) (hn : As.length = n) (hst : (st.map fun v => v.category).sum ≤ 8) (hd : xk_d cc pc (.invokestatic idx) 3 pc') (kk : ∀ (v : Option Value) (τ : xk_St), P' v τ → xk_X K (xk_vw w) τ pc' lv (v.toList ++ st)) : xk_X K (xk_vw w) σ pc lv (As.reverse ++ st) := by
  obtain ⟨p, l, e, R, s, m, args, below, meth, c, A, cells, slots, Q⟩ := K
  obtain ⟨hd, rfl⟩ := hd
  intro H locs ls hP hD hS h
  have hA : ∀ q, s.heap.size ≤ q → A q := fun q h => by rw [hc.2.2.2.2.2.1]; exact Or.inr h
  have hF := xk_sub hD hS hA
  have hrm : 8 + (y.2.2.1 + 11) + (xk_rm d').locals ≤ R.locals := by
    have h1 := hc.2.2.1.2
    have h2 := hy.2.2.2
    show 8 + (y.2.2.1 + 11) + 40 * d' ≤ R.locals
    omega
  obtain ⟨hcl0, hsl0⟩ := hc.2.2.2.2.1
  have hCB : CallB R s args own idx y.1 y.2.1 y.2.2.1 y.2.2.2 (Cond.code y.1 y.2.1 y.2.2.1 y.2.2.2 :: xk_wT w) (xk_rm d') 0 0 n := callB_of n hc.1.2.2.2.2 (xk_goodIn hg hy.1) rfl rfl rfl (hc.1.2.2.2.2 _ hy.2.1) (hc.1.2.2.2.2 _ hlink) hy.2.2.1 ⟨Nat.le_trans hdd hc.2.2.1.1, hrm⟩
  refine xk_on (va_runS (As := As) (rest := st) ⟨hc.1.1, hc.1.2.1, rfl, hc.1.2.2.2.1, hc.1.2.2.2.2⟩ (hM l H.size) ⟨hCB, hc.1.2.2.2.2 _ hstat⟩ (xk_pre hc.2.1 hP hD) rfl hn h.1 rfl (lv_room hst) hd ⟨by rw [hcl0]; exact Nat.zero_le _, by rw [hsl0]; exact Nat.zero_le _⟩) hS (fun q _ h => hF q h) hF (fun v τ H1 locs1 hp hP1 _ hS1 => ?_)
  exact kk v τ hp H1 locs1 ls hP1 (xk_D_of hD (fun k hk => xk_D_in hD hk)) hS1 h
end XI
end
section
/-! NAMES: kinds, their fields, methods; the words of the tables that this claim stands on -/
def RG : String := "LockstepField$Ground"
def FG : u_T := fun k => match k with
  | 0 => ("LockstepField$Ground", "walls", "J", false)
  | 1 => ("LockstepField$Ground", "queue", "[I", true)
  | 2 => ("LockstepField$Ground", "cameFrom", "[I", true)
  | _ => ("LockstepField$Ground", "stepsTo", "[I", true)
def TG : Nat → FieldType := fun k => match k with
  | 0 => .long
  | 1 => .array .int
  | 2 => .array .int
  | _ => .array .int
def RL : String := "LockstepField$Log"
def FL : u_T := fun k => match k with
  | 0 => ("LockstepField$Log", "ticks", "[I", true)
  | 1 => ("LockstepField$Log", "units", "[I", true)
  | 2 => ("LockstepField$Log", "kinds", "[I", true)
  | 3 => ("LockstepField$Log", "aims", "[I", true)
  | _ => ("LockstepField$Log", "count", "I", false)
def TL : Nat → FieldType := fun k => match k with
  | 0 => .array .int
  | 1 => .array .int
  | 2 => .array .int
  | 3 => .array .int
  | _ => .int
def RP : String := "LockstepField$Play"
def FP : u_T := fun k => match k with
  | 0 => ("LockstepField$Play", "ground", "LLockstepField$Ground;", true)
  | 1 => ("LockstepField$Play", "units", "[LLockstepField$Unit;", true)
  | 2 => ("LockstepField$Play", "losses", "[I", true)
  | _ => ("LockstepField$Play", "count", "I", false)
def TP : Nat → FieldType := fun k => match k with
  | 0 => .object "LockstepField$Ground"
  | 1 => .array (.object "LockstepField$Unit")
  | 2 => .array .int
  | _ => .int
def RU : String := "LockstepField$Unit"
def FU : u_T := fun k => match k with
  | 0 => ("LockstepField$Unit", "side", "I", false)
  | 1 => ("LockstepField$Unit", "start", "I", false)
  | 2 => ("LockstepField$Unit", "tile", "I", false)
  | 3 => ("LockstepField$Unit", "points", "I", false)
  | 4 => ("LockstepField$Unit", "order", "I", false)
  | 5 => ("LockstepField$Unit", "aim", "I", false)
  | 6 => ("LockstepField$Unit", "patience", "I", false)
  | 7 => ("LockstepField$Unit", "hurt", "Z", false)
  | 8 => ("LockstepField$Unit", "route", "[I", true)
  | 9 => ("LockstepField$Unit", "routeFrom", "I", false)
  | _ => ("LockstepField$Unit", "routeTo", "I", false)
def TU : Nat → FieldType := fun k => match k with
  | 0 => .int
  | 1 => .int
  | 2 => .int
  | 3 => .int
  | 4 => .int
  | 5 => .int
  | 6 => .int
  | 7 => .boolean
  | 8 => .array .int
  | 9 => .int
  | _ => .int
def RF : String := "LockstepField"
def FF : u_T := fun k => match k with
  | 0 => ("LockstepField", "ground", "LLockstepField$Ground;", true)
  | 1 => ("LockstepField", "log", "LLockstepField$Log;", true)
  | 2 => ("LockstepField", "live", "LLockstepField$Play;", true)
  | 3 => ("LockstepField", "again", "LLockstepField$Play;", true)
  | 4 => ("LockstepField", "numbers", "[I", true)
  | 5 => ("LockstepField", "played", "I", false)
  | _ => ("LockstepField", "begun", "Z", false)
def TF : Nat → FieldType := fun k => match k with
  | 0 => .object "LockstepField$Ground"
  | 1 => .object "LockstepField$Log"
  | 2 => .object "LockstepField$Play"
  | 3 => .object "LockstepField$Play"
  | 4 => .array .int
  | 5 => .int
  | _ => .boolean
def RM : String := "LockstepFieldModel"
def FM : u_T := fun k => match k with
  | 0 => ("LockstepFieldModel", "walls", "[Z", true)
  | 1 => ("LockstepFieldModel", "units", "I", false)
  | 2 => ("LockstepFieldModel", "side", "[I", true)
  | 3 => ("LockstepFieldModel", "origin", "[I", true)
  | 4 => ("LockstepFieldModel", "begun", "Z", false)
  | 5 => ("LockstepFieldModel", "played", "I", false)
  | 6 => ("LockstepFieldModel", "numbers", "[I", true)
  | 7 => ("LockstepFieldModel", "entries", "I", false)
  | 8 => ("LockstepFieldModel", "when", "[I", true)
  | 9 => ("LockstepFieldModel", "who", "[I", true)
  | 10 => ("LockstepFieldModel", "what", "[I", true)
  | 11 => ("LockstepFieldModel", "which", "[I", true)
  | 12 => ("LockstepFieldModel", "points", "[I", true)
  | 13 => ("LockstepFieldModel", "tile", "[I", true)
  | 14 => ("LockstepFieldModel", "order", "[I", true)
  | 15 => ("LockstepFieldModel", "aim", "[I", true)
  | 16 => ("LockstepFieldModel", "patience", "[I", true)
  | 17 => ("LockstepFieldModel", "paths", "[I", true)
  | 18 => ("LockstepFieldModel", "lengths", "[I", true)
  | 19 => ("LockstepFieldModel", "asidePoints", "[I", true)
  | 20 => ("LockstepFieldModel", "asideTile", "[I", true)
  | 21 => ("LockstepFieldModel", "asideOrder", "[I", true)
  | 22 => ("LockstepFieldModel", "asideAim", "[I", true)
  | 23 => ("LockstepFieldModel", "asidePatience", "[I", true)
  | 24 => ("LockstepFieldModel", "asidePaths", "[I", true)
  | 25 => ("LockstepFieldModel", "asideLengths", "[I", true)
  | 26 => ("LockstepFieldModel", "queue", "[I", true)
  | 27 => ("LockstepFieldModel", "from", "[I", true)
  | 28 => ("LockstepFieldModel", "way", "[I", true)
  | _ => ("LockstepFieldModel", "lost", "[I", true)
def TM : Nat → FieldType := fun k => match k with
  | 0 => .array .boolean
  | 1 => .int
  | 2 => .array .int
  | 3 => .array .int
  | 4 => .boolean
  | 5 => .int
  | 6 => .array .int
  | 7 => .int
  | 8 => .array .int
  | 9 => .array .int
  | 10 => .array .int
  | 11 => .array .int
  | 12 => .array .int
  | 13 => .array .int
  | 14 => .array .int
  | 15 => .array .int
  | 16 => .array .int
  | 17 => .array .int
  | 18 => .array .int
  | 19 => .array .int
  | 20 => .array .int
  | 21 => .array .int
  | 22 => .array .int
  | 23 => .array .int
  | 24 => .array .int
  | 25 => .array .int
  | 26 => .array .int
  | 27 => .array .int
  | 28 => .array .int
  | _ => .array .int
def RA : String := "java/util/Arrays"
abbrev xt_C : List vw_C := [(RG, FG, 4), (RL, FL, 5), (RP, FP, 4), (RU, FU, 11), (RF, FF, 7), (RM, FM, 30)]
def xt_T : List Cond := lw_tbl.filter goodWord
def xt_N : List Cond := lw_tbl.filter xk_nw
abbrev c_F_init : ByteArray := prog_1_method_1_code
abbrev y_F_init : xk_Y := (⟨RF, "<init>", "()V"⟩, c_F_init, 1, none)
abbrev c_G_init : ByteArray := prog_2_method_1_code
abbrev y_G_init : xk_Y := (⟨RG, "<init>", "()V"⟩, c_G_init, 1, none)
abbrev c_L_init : ByteArray := prog_3_method_1_code
abbrev y_L_init : xk_Y := (⟨RL, "<init>", "()V"⟩, c_L_init, 1, none)
abbrev c_P_init : ByteArray := prog_4_method_1_code
abbrev y_P_init : xk_Y := (⟨RP, "<init>", "(LLockstepField$Ground;)V"⟩, c_P_init, 3, none)
abbrev c_U_init : ByteArray := prog_5_method_1_code
abbrev y_U_init : xk_Y := (⟨RU, "<init>", "()V"⟩, c_U_init, 1, none)
abbrev c_F_wall : ByteArray := prog_1_method_2_code
abbrev y_F_wall : xk_Y := (⟨RF, "wall", "(IZ)Z"⟩, c_F_wall, 3, (some .boolean))
abbrev c_F_isTile : ByteArray := prog_1_method_18_code
abbrev y_F_isTile : xk_Y := (⟨RF, "isTile", "(I)Z"⟩, c_F_isTile, 1, (some .boolean))
abbrev c_P_isTaken : ByteArray := prog_4_method_6_code
abbrev y_P_isTaken : xk_Y := (⟨RP, "isTaken", "(I)Z"⟩, c_P_isTaken, 2, (some .boolean))
abbrev c_P_takenTiles : ByteArray := prog_4_method_8_code
abbrev y_P_takenTiles : xk_Y := (⟨RP, "takenTiles", "()J"⟩, c_P_takenTiles, 4, (some .long))
abbrev c_U_isDead : ByteArray := prog_5_method_6_code
abbrev y_U_isDead : xk_Y := (⟨RU, "isDead", "()Z"⟩, c_U_isDead, 1, (some .boolean))
abbrev c_G_bit : ByteArray := prog_2_method_2_code
abbrev y_G_bit : xk_Y := (⟨RG, "bit", "(I)J"⟩, c_G_bit, 1, (some .long))
abbrev c_G_build : ByteArray := prog_2_method_4_code
abbrev y_G_build : xk_Y := (⟨RG, "build", "(IZ)V"⟩, c_G_build, 3, none)
abbrev c_F_unit : ByteArray := prog_1_method_3_code
abbrev y_F_unit : xk_Y := (⟨RF, "unit", "(II)I"⟩, c_F_unit, 3, (some .int))
abbrev c_G_isWall : ByteArray := prog_2_method_3_code
abbrev y_G_isWall : xk_Y := (⟨RG, "isWall", "(I)Z"⟩, c_G_isWall, 2, (some .boolean))
abbrev c_P_place : ByteArray := prog_4_method_2_code
abbrev y_P_place : xk_Y := (⟨RP, "place", "(II)I"⟩, c_P_place, 3, (some .int))
abbrev c_U_settle : ByteArray := prog_5_method_2_code
abbrev y_U_settle : xk_Y := (⟨RU, "settle", "(II)V"⟩, c_U_settle, 3, none)
abbrev c_U_restart : ByteArray := prog_5_method_3_code
abbrev y_U_restart : xk_Y := (⟨RU, "restart", "()V"⟩, c_U_restart, 1, none)
abbrev c_U_obey : ByteArray := prog_5_method_4_code
abbrev y_U_obey : xk_Y := (⟨RU, "obey", "(II)V"⟩, c_U_obey, 3, none)
abbrev c_U_clearPath : ByteArray := prog_5_method_9_code
abbrev y_U_clearPath : xk_Y := (⟨RU, "clearPath", "()V"⟩, c_U_clearPath, 1, none)
abbrev c_F_begin : ByteArray := prog_1_method_4_code
abbrev y_F_begin : xk_Y := (⟨RF, "begin", "()I"⟩, c_F_begin, 1, (some .int))
abbrev c_F_command : ByteArray := prog_1_method_5_code
abbrev y_F_command : xk_Y := (⟨RF, "command", "(IIII)I"⟩, c_F_command, 5, (some .int))
abbrev c_P_has : ByteArray := prog_4_method_4_code
abbrev y_P_has : xk_Y := (⟨RP, "has", "(I)Z"⟩, c_P_has, 2, (some .boolean))
abbrev c_F_isKindWithNumber : ByteArray := prog_1_method_17_code
abbrev y_F_isKindWithNumber : xk_Y := (⟨RF, "isKindWithNumber", "(III)Z"⟩, c_F_isKindWithNumber, 4, (some .boolean))
abbrev c_L_add : ByteArray := prog_3_method_2_code
abbrev y_L_add : xk_Y := (⟨RL, "add", "(IIII)I"⟩, c_L_add, 5, (some .int))
abbrev c_F_forget : ByteArray := prog_1_method_6_code
abbrev y_F_forget : xk_Y := (⟨RF, "forget", "(I)Z"⟩, c_F_forget, 2, (some .boolean))
abbrev c_L_remove : ByteArray := prog_3_method_3_code
abbrev y_L_remove : xk_Y := (⟨RL, "remove", "(I)V"⟩, c_L_remove, 2, none)
abbrev c_L_closeGap : ByteArray := prog_3_method_4_code
abbrev y_L_closeGap : xk_Y := (⟨RL, "closeGap", "([II)V"⟩, c_L_closeGap, 3, none)
abbrev c_F_run : ByteArray := prog_1_method_7_code
abbrev y_F_run : xk_Y := (⟨RF, "run", "(I)I"⟩, c_F_run, 3, (some .int))
abbrev c_P_playTick : ByteArray := prog_4_method_7_code
abbrev y_P_playTick : xk_Y := (⟨RP, "playTick", "(ILLockstepField$Log;)I"⟩, c_P_playTick, 4, (some .int))
abbrev c_P_giveOrders : ByteArray := prog_4_method_9_code
abbrev y_P_giveOrders : xk_Y := (⟨RP, "giveOrders", "(ILLockstepField$Log;)V"⟩, c_P_giveOrders, 5, none)
abbrev c_P_follow : ByteArray := prog_4_method_10_code
abbrev y_P_follow : xk_Y := (⟨RP, "follow", "(LLockstepField$Unit;)V"⟩, c_P_follow, 3, none)
abbrev c_P_goalOf : ByteArray := prog_4_method_11_code
abbrev y_P_goalOf : xk_Y := (⟨RP, "goalOf", "(LLockstepField$Unit;)I"⟩, c_P_goalOf, 2, (some .int))
abbrev c_U_dropOrder : ByteArray := prog_5_method_5_code
abbrev y_U_dropOrder : xk_Y := (⟨RU, "dropOrder", "()V"⟩, c_U_dropOrder, 1, none)
abbrev c_G_distance : ByteArray := prog_2_method_7_code
abbrev y_G_distance : xk_Y := (⟨RG, "distance", "(II)I"⟩, c_G_distance, 2, (some .int))
abbrev c_P_walk : ByteArray := prog_4_method_12_code
abbrev y_P_walk : xk_Y := (⟨RP, "walk", "(LLockstepField$Unit;I)V"⟩, c_P_walk, 3, none)
abbrev c_U_isPathTo : ByteArray := prog_5_method_12_code
abbrev y_U_isPathTo : xk_Y := (⟨RU, "isPathTo", "(I)Z"⟩, c_U_isPathTo, 2, (some .boolean))
abbrev c_U_pathLength : ByteArray := prog_5_method_10_code
abbrev y_U_pathLength : xk_Y := (⟨RU, "pathLength", "()I"⟩, c_U_pathLength, 1, (some .int))
abbrev c_P_findPath : ByteArray := prog_4_method_13_code
abbrev y_P_findPath : xk_Y := (⟨RP, "findPath", "(LLockstepField$Unit;IJ)V"⟩, c_P_findPath, 6, none)
abbrev c_G_search : ByteArray := prog_2_method_5_code
abbrev y_G_search : xk_Y := (⟨RG, "search", "(IIJ)I"⟩, c_G_search, 12, (some .int))
abbrev c_A_fill : ByteArray := prog_10_method_103_code
abbrev y_A_fill : xk_Y := (⟨RA, "fill", "([II)V"⟩, c_A_fill, 4, none)
abbrev c_G_beside : ByteArray := prog_2_method_8_code
abbrev y_G_beside : xk_Y := (⟨RG, "beside", "(II)I"⟩, c_G_beside, 2, (some .int))
abbrev c_G_layPath : ByteArray := prog_2_method_6_code
abbrev y_G_layPath : xk_Y := (⟨RG, "layPath", "(I[I)V"⟩, c_G_layPath, 5, none)
abbrev c_U_pathTile : ByteArray := prog_5_method_11_code
abbrev y_U_pathTile : xk_Y := (⟨RU, "pathTile", "(I)I"⟩, c_U_pathTile, 2, (some .int))
abbrev c_U_step : ByteArray := prog_5_method_14_code
abbrev y_U_step : xk_Y := (⟨RU, "step", "()V"⟩, c_U_step, 1, none)
abbrev c_U_runsOutOfPatience : ByteArray := prog_5_method_13_code
abbrev y_U_runsOutOfPatience : xk_Y := (⟨RU, "runsOutOfPatience", "()Z"⟩, c_U_runsOutOfPatience, 1, (some .boolean))
abbrev c_P_exchangeBlows : ByteArray := prog_4_method_14_code
abbrev y_P_exchangeBlows : xk_Y := (⟨RP, "exchangeBlows", "()V"⟩, c_P_exchangeBlows, 2, none)
abbrev c_P_reaches : ByteArray := prog_4_method_15_code
abbrev y_P_reaches : xk_Y := (⟨RP, "reaches", "(LLockstepField$Unit;LLockstepField$Unit;)Z"⟩, c_P_reaches, 2, (some .boolean))
abbrev c_U_suffer : ByteArray := prog_5_method_7_code
abbrev y_U_suffer : xk_Y := (⟨RU, "suffer", "(I)V"⟩, c_U_suffer, 2, none)
abbrev c_P_restAll : ByteArray := prog_4_method_16_code
abbrev y_P_restAll : xk_Y := (⟨RP, "restAll", "()V"⟩, c_P_restAll, 2, none)
abbrev c_U_rest : ByteArray := prog_5_method_8_code
abbrev y_U_rest : xk_Y := (⟨RU, "rest", "()V"⟩, c_U_rest, 1, none)
abbrev c_P_sum : ByteArray := prog_4_method_17_code
abbrev y_P_sum : xk_Y := (⟨RP, "sum", "()I"⟩, c_P_sum, 4, (some .int))
abbrev c_F_replay : ByteArray := prog_1_method_8_code
abbrev y_F_replay : xk_Y := (⟨RF, "replay", "()I"⟩, c_F_replay, 2, (some .int))
abbrev c_P_restart : ByteArray := prog_4_method_3_code
abbrev y_P_restart : xk_Y := (⟨RP, "restart", "()V"⟩, c_P_restart, 2, none)
abbrev c_F_number : ByteArray := prog_1_method_9_code
abbrev y_F_number : xk_Y := (⟨RF, "number", "(I)I"⟩, c_F_number, 2, (some .int))
abbrev c_F_tile : ByteArray := prog_1_method_10_code
abbrev y_F_tile : xk_Y := (⟨RF, "tile", "(I)I"⟩, c_F_tile, 2, (some .int))
abbrev c_F_points : ByteArray := prog_1_method_11_code
abbrev y_F_points : xk_Y := (⟨RF, "points", "(I)I"⟩, c_F_points, 2, (some .int))
abbrev c_F_order : ByteArray := prog_1_method_12_code
abbrev y_F_order : xk_Y := (⟨RF, "order", "(I)I"⟩, c_F_order, 2, (some .int))
abbrev c_F_path : ByteArray := prog_1_method_13_code
abbrev y_F_path : xk_Y := (⟨RF, "path", "(II)I"⟩, c_F_path, 3, (some .int))
abbrev c_F_entries : ByteArray := prog_1_method_14_code
abbrev y_F_entries : xk_Y := (⟨RF, "entries", "()I"⟩, c_F_entries, 1, (some .int))
abbrev c_F_steps : ByteArray := prog_1_method_15_code
abbrev y_F_steps : xk_Y := (⟨RF, "steps", "(II)I"⟩, c_F_steps, 4, (some .int))
abbrev c_F_winner : ByteArray := prog_1_method_16_code
abbrev y_F_winner : xk_Y := (⟨RF, "winner", "()I"⟩, c_F_winner, 3, (some .int))
abbrev c_P_hasLiving : ByteArray := prog_4_method_5_code
abbrev y_P_hasLiving : xk_Y := (⟨RP, "hasLiving", "(I)Z"⟩, c_P_hasLiving, 3, (some .boolean))
abbrev c_M_init : ByteArray := prog_7_method_1_code
abbrev y_M_init : xk_Y := (⟨RM, "<init>", "()V"⟩, c_M_init, 1, none)
abbrev c_M_wall : ByteArray := prog_7_method_5_code
abbrev y_M_wall : xk_Y := (⟨RM, "wall", "(IZ)Z"⟩, c_M_wall, 3, (some .boolean))
abbrev c_M_isTile : ByteArray := prog_7_method_2_code
abbrev y_M_isTile : xk_Y := (⟨RM, "isTile", "(I)Z"⟩, c_M_isTile, 1, (some .boolean))
abbrev c_M_isTaken : ByteArray := prog_7_method_4_code
abbrev y_M_isTaken : xk_Y := (⟨RM, "isTaken", "(I)Z"⟩, c_M_isTaken, 4, (some .boolean))
abbrev c_M_unit : ByteArray := prog_7_method_6_code
abbrev y_M_unit : xk_Y := (⟨RM, "unit", "(II)I"⟩, c_M_unit, 3, (some .int))
abbrev c_M_begin : ByteArray := prog_7_method_7_code
abbrev y_M_begin : xk_Y := (⟨RM, "begin", "()I"⟩, c_M_begin, 1, (some .int))
abbrev c_M_command : ByteArray := prog_7_method_8_code
abbrev y_M_command : xk_Y := (⟨RM, "command", "(IIII)I"⟩, c_M_command, 6, (some .int))
abbrev c_M_isUnit : ByteArray := prog_7_method_3_code
abbrev y_M_isUnit : xk_Y := (⟨RM, "isUnit", "(I)Z"⟩, c_M_isUnit, 2, (some .boolean))
abbrev c_M_forget : ByteArray := prog_7_method_9_code
abbrev y_M_forget : xk_Y := (⟨RM, "forget", "(I)Z"⟩, c_M_forget, 3, (some .boolean))
abbrev c_M_steps : ByteArray := prog_7_method_14_code
abbrev y_M_steps : xk_Y := (⟨RM, "steps", "(II)I"⟩, c_M_steps, 4, (some .int))
abbrev c_M_find : ByteArray := prog_7_method_12_code
abbrev y_M_find : xk_Y := (⟨RM, "find", "(IIZ)I"⟩, c_M_find, 8, (some .int))
abbrev c_M_beside : ByteArray := prog_7_method_10_code
abbrev y_M_beside : xk_Y := (⟨RM, "beside", "(II)I"⟩, c_M_beside, 4, (some .int))
abbrev c_M_run : ByteArray := prog_7_method_21_code
abbrev y_M_run : xk_Y := (⟨RM, "run", "(I)I"⟩, c_M_run, 3, (some .int))
abbrev c_M_play : ByteArray := prog_7_method_20_code
abbrev y_M_play : xk_Y := (⟨RM, "play", "(I)I"⟩, c_M_play, 4, (some .int))
abbrev c_M_obey : ByteArray := prog_7_method_15_code
abbrev y_M_obey : xk_Y := (⟨RM, "obey", "(I)V"⟩, c_M_obey, 4, none)
abbrev c_M_move : ByteArray := prog_7_method_17_code
abbrev y_M_move : xk_Y := (⟨RM, "move", "(I)V"⟩, c_M_move, 4, none)
abbrev c_M_stop : ByteArray := prog_7_method_16_code
abbrev y_M_stop : xk_Y := (⟨RM, "stop", "(I)V"⟩, c_M_stop, 2, none)
abbrev c_M_distance : ByteArray := prog_7_method_11_code
abbrev y_M_distance : xk_Y := (⟨RM, "distance", "(II)I"⟩, c_M_distance, 4, (some .int))
abbrev c_M_take : ByteArray := prog_7_method_13_code
abbrev y_M_take : xk_Y := (⟨RM, "take", "(II)V"⟩, c_M_take, 4, none)
abbrev c_M_step : ByteArray := prog_7_method_18_code
abbrev y_M_step : xk_Y := (⟨RM, "step", "(IIZ)V"⟩, c_M_step, 6, none)
abbrev c_M_fight : ByteArray := prog_7_method_19_code
abbrev y_M_fight : xk_Y := (⟨RM, "fight", "()V"⟩, c_M_fight, 3, none)
abbrev c_M_replay : ByteArray := prog_7_method_24_code
abbrev y_M_replay : xk_Y := (⟨RM, "replay", "()I"⟩, c_M_replay, 3, (some .int))
abbrev c_M_layAside : ByteArray := prog_7_method_22_code
abbrev y_M_layAside : xk_Y := (⟨RM, "layAside", "()V"⟩, c_M_layAside, 2, none)
abbrev c_M_putBack : ByteArray := prog_7_method_23_code
abbrev y_M_putBack : xk_Y := (⟨RM, "putBack", "()V"⟩, c_M_putBack, 2, none)
abbrev c_M_number : ByteArray := prog_7_method_25_code
abbrev y_M_number : xk_Y := (⟨RM, "number", "(I)I"⟩, c_M_number, 2, (some .int))
abbrev c_M_tile : ByteArray := prog_7_method_26_code
abbrev y_M_tile : xk_Y := (⟨RM, "tile", "(I)I"⟩, c_M_tile, 2, (some .int))
abbrev c_M_points : ByteArray := prog_7_method_27_code
abbrev y_M_points : xk_Y := (⟨RM, "points", "(I)I"⟩, c_M_points, 2, (some .int))
abbrev c_M_order : ByteArray := prog_7_method_28_code
abbrev y_M_order : xk_Y := (⟨RM, "order", "(I)I"⟩, c_M_order, 2, (some .int))
abbrev c_M_path : ByteArray := prog_7_method_29_code
abbrev y_M_path : xk_Y := (⟨RM, "path", "(II)I"⟩, c_M_path, 3, (some .int))
abbrev c_M_entries : ByteArray := prog_7_method_30_code
abbrev y_M_entries : xk_Y := (⟨RM, "entries", "()I"⟩, c_M_entries, 1, (some .int))
abbrev c_M_winner : ByteArray := prog_7_method_31_code
abbrev y_M_winner : xk_Y := (⟨RM, "winner", "()I"⟩, c_M_winner, 4, (some .int))
end
section
/-! decode rows -/
theorem d_G_init_0 : xk_d c_G_init 0 (.aload_n 0) 1 1 := ⟨by decide +kernel, rfl⟩
theorem d_G_init_1 : xk_d c_G_init 1 (.invokespecial 3) 3 4 := ⟨by decide +kernel, rfl⟩
theorem d_G_init_4 : xk_d c_G_init 4 (.aload_n 0) 1 5 := ⟨by decide +kernel, rfl⟩
theorem d_G_init_5 : xk_d c_G_init 5 (.bipush 64) 2 7 := ⟨by decide +kernel, rfl⟩
theorem d_G_init_7 : xk_d c_G_init 7 (.newarray .int) 2 9 := ⟨by decide +kernel, rfl⟩
theorem d_G_init_9 : xk_d c_G_init 9 (.putfield 9) 3 12 := ⟨by decide +kernel, rfl⟩
theorem d_G_init_12 : xk_d c_G_init 12 (.aload_n 0) 1 13 := ⟨by decide +kernel, rfl⟩
theorem d_G_init_13 : xk_d c_G_init 13 (.bipush 64) 2 15 := ⟨by decide +kernel, rfl⟩
theorem d_G_init_15 : xk_d c_G_init 15 (.newarray .int) 2 17 := ⟨by decide +kernel, rfl⟩
theorem d_G_init_17 : xk_d c_G_init 17 (.putfield 15) 3 20 := ⟨by decide +kernel, rfl⟩
theorem d_G_init_20 : xk_d c_G_init 20 (.aload_n 0) 1 21 := ⟨by decide +kernel, rfl⟩
theorem d_G_init_21 : xk_d c_G_init 21 (.bipush 64) 2 23 := ⟨by decide +kernel, rfl⟩
theorem d_G_init_23 : xk_d c_G_init 23 (.newarray .int) 2 25 := ⟨by decide +kernel, rfl⟩
theorem d_G_init_25 : xk_d c_G_init 25 (.putfield 18) 3 28 := ⟨by decide +kernel, rfl⟩
theorem d_G_init_28 : xk_d c_G_init 28 (.return_) 1 29 := ⟨by decide +kernel, rfl⟩
theorem d_G_bit_0 : xk_d c_G_bit 0 (.lconst 1) 1 1 := ⟨by decide +kernel, rfl⟩
theorem d_G_bit_1 : xk_d c_G_bit 1 (.iload_n 0) 1 2 := ⟨by decide +kernel, rfl⟩
theorem d_G_bit_2 : xk_d c_G_bit 2 (.lshl) 1 3 := ⟨by decide +kernel, rfl⟩
theorem d_G_bit_3 : xk_d c_G_bit 3 (.lreturn) 1 4 := ⟨by decide +kernel, rfl⟩
theorem d_G_isWall_0 : xk_d c_G_isWall 0 (.aload_n 0) 1 1 := ⟨by decide +kernel, rfl⟩
theorem d_G_isWall_1 : xk_d c_G_isWall 1 (.getfield 21) 3 4 := ⟨by decide +kernel, rfl⟩
theorem d_G_isWall_4 : xk_d c_G_isWall 4 (.iload_n 1) 1 5 := ⟨by decide +kernel, rfl⟩
theorem d_G_isWall_5 : xk_d c_G_isWall 5 (.invokestatic 25) 3 8 := ⟨by decide +kernel, rfl⟩
theorem d_G_isWall_8 : xk_d c_G_isWall 8 (.land) 1 9 := ⟨by decide +kernel, rfl⟩
theorem d_G_isWall_9 : xk_d c_G_isWall 9 (.lconst 0) 1 10 := ⟨by decide +kernel, rfl⟩
theorem d_G_isWall_10 : xk_d c_G_isWall 10 (.lcmp) 1 11 := ⟨by decide +kernel, rfl⟩
theorem d_G_isWall_11 : xk_b c_G_isWall 11 (.ifCond .eq 7) 14 (7) 18 := ⟨by decide +kernel, rfl, by decide⟩
theorem d_G_isWall_14 : xk_d c_G_isWall 14 (.iconst 1) 1 15 := ⟨by decide +kernel, rfl⟩
theorem d_G_isWall_15 : xk_b c_G_isWall 15 (.goto 4) 18 (4) 19 := ⟨by decide +kernel, rfl, by decide⟩
theorem d_G_isWall_18 : xk_d c_G_isWall 18 (.iconst 0) 1 19 := ⟨by decide +kernel, rfl⟩
theorem d_G_isWall_19 : xk_d c_G_isWall 19 (.ireturn) 1 20 := ⟨by decide +kernel, rfl⟩
theorem d_G_build_0 : xk_d c_G_build 0 (.aload_n 0) 1 1 := ⟨by decide +kernel, rfl⟩
theorem d_G_build_1 : xk_d c_G_build 1 (.iload_n 2) 1 2 := ⟨by decide +kernel, rfl⟩
theorem d_G_build_2 : xk_b c_G_build 2 (.ifCond .eq 15) 5 (15) 17 := ⟨by decide +kernel, rfl, by decide⟩
theorem d_G_build_5 : xk_d c_G_build 5 (.aload_n 0) 1 6 := ⟨by decide +kernel, rfl⟩
theorem d_G_build_6 : xk_d c_G_build 6 (.getfield 21) 3 9 := ⟨by decide +kernel, rfl⟩
theorem d_G_build_9 : xk_d c_G_build 9 (.iload_n 1) 1 10 := ⟨by decide +kernel, rfl⟩
theorem d_G_build_10 : xk_d c_G_build 10 (.invokestatic 25) 3 13 := ⟨by decide +kernel, rfl⟩
theorem d_G_build_13 : xk_d c_G_build 13 (.lor) 1 14 := ⟨by decide +kernel, rfl⟩
theorem d_G_build_14 : xk_b c_G_build 14 (.goto 16) 17 (16) 30 := ⟨by decide +kernel, rfl, by decide⟩
theorem d_G_build_17 : xk_d c_G_build 17 (.aload_n 0) 1 18 := ⟨by decide +kernel, rfl⟩
theorem d_G_build_18 : xk_d c_G_build 18 (.getfield 21) 3 21 := ⟨by decide +kernel, rfl⟩
theorem d_G_build_21 : xk_d c_G_build 21 (.iload_n 1) 1 22 := ⟨by decide +kernel, rfl⟩
theorem d_G_build_22 : xk_d c_G_build 22 (.invokestatic 25) 3 25 := ⟨by decide +kernel, rfl⟩
theorem d_G_build_25 : xk_d c_G_build 25 (.ldc2_w 29) 3 28 := ⟨by decide +kernel, rfl⟩
theorem d_G_build_28 : xk_d c_G_build 28 (.lxor) 1 29 := ⟨by decide +kernel, rfl⟩
theorem d_G_build_29 : xk_d c_G_build 29 (.land) 1 30 := ⟨by decide +kernel, rfl⟩
theorem d_G_build_30 : xk_d c_G_build 30 (.putfield 21) 3 33 := ⟨by decide +kernel, rfl⟩
theorem d_G_build_33 : xk_d c_G_build 33 (.return_) 1 34 := ⟨by decide +kernel, rfl⟩
theorem d_G_search_0 : xk_d c_G_search 0 (.aload_n 0) 1 1 := ⟨by decide +kernel, rfl⟩
theorem d_G_search_1 : xk_d c_G_search 1 (.getfield 21) 3 4 := ⟨by decide +kernel, rfl⟩
theorem d_G_search_4 : xk_d c_G_search 4 (.lload_n 3) 1 5 := ⟨by decide +kernel, rfl⟩
theorem d_G_search_5 : xk_d c_G_search 5 (.iload_n 2) 1 6 := ⟨by decide +kernel, rfl⟩
theorem d_G_search_6 : xk_d c_G_search 6 (.invokestatic 25) 3 9 := ⟨by decide +kernel, rfl⟩
theorem d_G_search_9 : xk_d c_G_search 9 (.ldc2_w 29) 3 12 := ⟨by decide +kernel, rfl⟩
theorem d_G_search_12 : xk_d c_G_search 12 (.lxor) 1 13 := ⟨by decide +kernel, rfl⟩
theorem d_G_search_13 : xk_d c_G_search 13 (.land) 1 14 := ⟨by decide +kernel, rfl⟩
theorem d_G_search_14 : xk_d c_G_search 14 (.lor) 1 15 := ⟨by decide +kernel, rfl⟩
theorem d_G_search_15 : xk_d c_G_search 15 (.iload_n 1) 1 16 := ⟨by decide +kernel, rfl⟩
theorem d_G_search_16 : xk_d c_G_search 16 (.invokestatic 25) 3 19 := ⟨by decide +kernel, rfl⟩
theorem d_G_search_19 : xk_d c_G_search 19 (.lor) 1 20 := ⟨by decide +kernel, rfl⟩
theorem d_G_search_20 : xk_d c_G_search 20 (.lstore 5) 2 22 := ⟨by decide +kernel, rfl⟩
theorem d_G_search_22 : xk_d c_G_search 22 (.aload_n 0) 1 23 := ⟨by decide +kernel, rfl⟩
theorem d_G_search_23 : xk_d c_G_search 23 (.getfield 18) 3 26 := ⟨by decide +kernel, rfl⟩
theorem d_G_search_26 : xk_d c_G_search 26 (.iconst (-1)) 1 27 := ⟨by decide +kernel, rfl⟩
theorem d_G_search_27 : xk_d c_G_search 27 (.invokestatic 31) 3 30 := ⟨by decide +kernel, rfl⟩
theorem d_G_search_30 : xk_d c_G_search 30 (.aload_n 0) 1 31 := ⟨by decide +kernel, rfl⟩
theorem d_G_search_31 : xk_d c_G_search 31 (.getfield 18) 3 34 := ⟨by decide +kernel, rfl⟩
theorem d_G_search_34 : xk_d c_G_search 34 (.iload_n 1) 1 35 := ⟨by decide +kernel, rfl⟩
theorem d_G_search_35 : xk_d c_G_search 35 (.iconst 0) 1 36 := ⟨by decide +kernel, rfl⟩
theorem d_G_search_36 : xk_d c_G_search 36 (.iastore) 1 37 := ⟨by decide +kernel, rfl⟩
theorem d_G_search_37 : xk_d c_G_search 37 (.aload_n 0) 1 38 := ⟨by decide +kernel, rfl⟩
theorem d_G_search_38 : xk_d c_G_search 38 (.getfield 9) 3 41 := ⟨by decide +kernel, rfl⟩
theorem d_G_search_41 : xk_d c_G_search 41 (.iconst 0) 1 42 := ⟨by decide +kernel, rfl⟩
theorem d_G_search_42 : xk_d c_G_search 42 (.iload_n 1) 1 43 := ⟨by decide +kernel, rfl⟩
theorem d_G_search_43 : xk_d c_G_search 43 (.iastore) 1 44 := ⟨by decide +kernel, rfl⟩
theorem d_G_search_44 : xk_d c_G_search 44 (.iconst 1) 1 45 := ⟨by decide +kernel, rfl⟩
theorem d_G_search_45 : xk_d c_G_search 45 (.istore 7) 2 47 := ⟨by decide +kernel, rfl⟩
theorem d_G_search_47 : xk_d c_G_search 47 (.iconst 0) 1 48 := ⟨by decide +kernel, rfl⟩
theorem d_G_search_48 : xk_d c_G_search 48 (.istore 8) 2 50 := ⟨by decide +kernel, rfl⟩
theorem d_G_search_50 : xk_d c_G_search 50 (.iload 8) 2 52 := ⟨by decide +kernel, rfl⟩
theorem d_G_search_52 : xk_d c_G_search 52 (.bipush 64) 2 54 := ⟨by decide +kernel, rfl⟩
theorem d_G_search_54 : xk_b c_G_search 54 (.if_icmp .ge 125) 57 (125) 179 := ⟨by decide +kernel, rfl, by decide⟩
theorem d_G_search_57 : xk_d c_G_search 57 (.iload 8) 2 59 := ⟨by decide +kernel, rfl⟩
theorem d_G_search_59 : xk_d c_G_search 59 (.iload 7) 2 61 := ⟨by decide +kernel, rfl⟩
theorem d_G_search_61 : xk_b c_G_search 61 (.if_icmp .ge 118) 64 (118) 179 := ⟨by decide +kernel, rfl, by decide⟩
theorem d_G_search_64 : xk_d c_G_search 64 (.aload_n 0) 1 65 := ⟨by decide +kernel, rfl⟩
theorem d_G_search_65 : xk_d c_G_search 65 (.getfield 18) 3 68 := ⟨by decide +kernel, rfl⟩
theorem d_G_search_68 : xk_d c_G_search 68 (.iload_n 2) 1 69 := ⟨by decide +kernel, rfl⟩
theorem d_G_search_69 : xk_d c_G_search 69 (.iaload) 1 70 := ⟨by decide +kernel, rfl⟩
theorem d_G_search_70 : xk_d c_G_search 70 (.iconst (-1)) 1 71 := ⟨by decide +kernel, rfl⟩
theorem d_G_search_71 : xk_b c_G_search 71 (.if_icmp .ne 108) 74 (108) 179 := ⟨by decide +kernel, rfl, by decide⟩
theorem d_G_search_74 : xk_d c_G_search 74 (.aload_n 0) 1 75 := ⟨by decide +kernel, rfl⟩
theorem d_G_search_75 : xk_d c_G_search 75 (.getfield 9) 3 78 := ⟨by decide +kernel, rfl⟩
theorem d_G_search_78 : xk_d c_G_search 78 (.iload 8) 2 80 := ⟨by decide +kernel, rfl⟩
theorem d_G_search_80 : xk_d c_G_search 80 (.iaload) 1 81 := ⟨by decide +kernel, rfl⟩
theorem d_G_search_81 : xk_d c_G_search 81 (.istore 9) 2 83 := ⟨by decide +kernel, rfl⟩
theorem d_G_search_83 : xk_d c_G_search 83 (.iconst 0) 1 84 := ⟨by decide +kernel, rfl⟩
theorem d_G_search_84 : xk_d c_G_search 84 (.istore 10) 2 86 := ⟨by decide +kernel, rfl⟩
theorem d_G_search_86 : xk_d c_G_search 86 (.iload 10) 2 88 := ⟨by decide +kernel, rfl⟩
theorem d_G_search_88 : xk_d c_G_search 88 (.iconst 4) 1 89 := ⟨by decide +kernel, rfl⟩
theorem d_G_search_89 : xk_b c_G_search 89 (.if_icmp .ge 84) 92 (84) 173 := ⟨by decide +kernel, rfl, by decide⟩
theorem d_G_search_92 : xk_d c_G_search 92 (.iload 9) 2 94 := ⟨by decide +kernel, rfl⟩
theorem d_G_search_94 : xk_d c_G_search 94 (.iload 10) 2 96 := ⟨by decide +kernel, rfl⟩
theorem d_G_search_96 : xk_d c_G_search 96 (.invokestatic 37) 3 99 := ⟨by decide +kernel, rfl⟩
theorem d_G_search_99 : xk_d c_G_search 99 (.istore 11) 2 101 := ⟨by decide +kernel, rfl⟩
theorem d_G_search_101 : xk_d c_G_search 101 (.iload 11) 2 103 := ⟨by decide +kernel, rfl⟩
theorem d_G_search_103 : xk_d c_G_search 103 (.iconst (-1)) 1 104 := ⟨by decide +kernel, rfl⟩
theorem d_G_search_104 : xk_b c_G_search 104 (.if_icmp .eq 63) 107 (63) 167 := ⟨by decide +kernel, rfl, by decide⟩
theorem d_G_search_107 : xk_d c_G_search 107 (.lload 5) 2 109 := ⟨by decide +kernel, rfl⟩
theorem d_G_search_109 : xk_d c_G_search 109 (.iload 11) 2 111 := ⟨by decide +kernel, rfl⟩
theorem d_G_search_111 : xk_d c_G_search 111 (.invokestatic 25) 3 114 := ⟨by decide +kernel, rfl⟩
theorem d_G_search_114 : xk_d c_G_search 114 (.land) 1 115 := ⟨by decide +kernel, rfl⟩
theorem d_G_search_115 : xk_d c_G_search 115 (.lconst 0) 1 116 := ⟨by decide +kernel, rfl⟩
theorem d_G_search_116 : xk_d c_G_search 116 (.lcmp) 1 117 := ⟨by decide +kernel, rfl⟩
theorem d_G_search_117 : xk_b c_G_search 117 (.ifCond .ne 50) 120 (50) 167 := ⟨by decide +kernel, rfl, by decide⟩
theorem d_G_search_120 : xk_d c_G_search 120 (.lload 5) 2 122 := ⟨by decide +kernel, rfl⟩
theorem d_G_search_122 : xk_d c_G_search 122 (.iload 11) 2 124 := ⟨by decide +kernel, rfl⟩
theorem d_G_search_124 : xk_d c_G_search 124 (.invokestatic 25) 3 127 := ⟨by decide +kernel, rfl⟩
theorem d_G_search_127 : xk_d c_G_search 127 (.lor) 1 128 := ⟨by decide +kernel, rfl⟩
theorem d_G_search_128 : xk_d c_G_search 128 (.lstore 5) 2 130 := ⟨by decide +kernel, rfl⟩
theorem d_G_search_130 : xk_d c_G_search 130 (.aload_n 0) 1 131 := ⟨by decide +kernel, rfl⟩
theorem d_G_search_131 : xk_d c_G_search 131 (.getfield 15) 3 134 := ⟨by decide +kernel, rfl⟩
theorem d_G_search_134 : xk_d c_G_search 134 (.iload 11) 2 136 := ⟨by decide +kernel, rfl⟩
theorem d_G_search_136 : xk_d c_G_search 136 (.iload 9) 2 138 := ⟨by decide +kernel, rfl⟩
theorem d_G_search_138 : xk_d c_G_search 138 (.iastore) 1 139 := ⟨by decide +kernel, rfl⟩
theorem d_G_search_139 : xk_d c_G_search 139 (.aload_n 0) 1 140 := ⟨by decide +kernel, rfl⟩
theorem d_G_search_140 : xk_d c_G_search 140 (.getfield 18) 3 143 := ⟨by decide +kernel, rfl⟩
theorem d_G_search_143 : xk_d c_G_search 143 (.iload 11) 2 145 := ⟨by decide +kernel, rfl⟩
theorem d_G_search_145 : xk_d c_G_search 145 (.aload_n 0) 1 146 := ⟨by decide +kernel, rfl⟩
theorem d_G_search_146 : xk_d c_G_search 146 (.getfield 18) 3 149 := ⟨by decide +kernel, rfl⟩
theorem d_G_search_149 : xk_d c_G_search 149 (.iload 9) 2 151 := ⟨by decide +kernel, rfl⟩
theorem d_G_search_151 : xk_d c_G_search 151 (.iaload) 1 152 := ⟨by decide +kernel, rfl⟩
theorem d_G_search_152 : xk_d c_G_search 152 (.iconst 1) 1 153 := ⟨by decide +kernel, rfl⟩
theorem d_G_search_153 : xk_d c_G_search 153 (.iadd) 1 154 := ⟨by decide +kernel, rfl⟩
theorem d_G_search_154 : xk_d c_G_search 154 (.iastore) 1 155 := ⟨by decide +kernel, rfl⟩
theorem d_G_search_155 : xk_d c_G_search 155 (.aload_n 0) 1 156 := ⟨by decide +kernel, rfl⟩
theorem d_G_search_156 : xk_d c_G_search 156 (.getfield 9) 3 159 := ⟨by decide +kernel, rfl⟩
theorem d_G_search_159 : xk_d c_G_search 159 (.iload 7) 2 161 := ⟨by decide +kernel, rfl⟩
theorem d_G_search_161 : xk_d c_G_search 161 (.iload 11) 2 163 := ⟨by decide +kernel, rfl⟩
theorem d_G_search_163 : xk_d c_G_search 163 (.iastore) 1 164 := ⟨by decide +kernel, rfl⟩
theorem d_G_search_164 : xk_d c_G_search 164 (.iinc 7 1) 3 167 := ⟨by decide +kernel, rfl⟩
theorem d_G_search_167 : xk_d c_G_search 167 (.iinc 10 1) 3 170 := ⟨by decide +kernel, rfl⟩
theorem d_G_search_170 : xk_b c_G_search 170 (.goto (-84)) 173 (-84) 86 := ⟨by decide +kernel, rfl, by decide⟩
theorem d_G_search_173 : xk_d c_G_search 173 (.iinc 8 1) 3 176 := ⟨by decide +kernel, rfl⟩
theorem d_G_search_176 : xk_b c_G_search 176 (.goto (-126)) 179 (-126) 50 := ⟨by decide +kernel, rfl, by decide⟩
theorem d_G_search_179 : xk_d c_G_search 179 (.aload_n 0) 1 180 := ⟨by decide +kernel, rfl⟩
theorem d_G_search_180 : xk_d c_G_search 180 (.getfield 18) 3 183 := ⟨by decide +kernel, rfl⟩
theorem d_G_search_183 : xk_d c_G_search 183 (.iload_n 2) 1 184 := ⟨by decide +kernel, rfl⟩
theorem d_G_search_184 : xk_d c_G_search 184 (.iaload) 1 185 := ⟨by decide +kernel, rfl⟩
theorem d_G_search_185 : xk_d c_G_search 185 (.ireturn) 1 186 := ⟨by decide +kernel, rfl⟩
theorem d_G_layPath_0 : xk_d c_G_layPath 0 (.iload_n 1) 1 1 := ⟨by decide +kernel, rfl⟩
theorem d_G_layPath_1 : xk_d c_G_layPath 1 (.istore_n 3) 1 2 := ⟨by decide +kernel, rfl⟩
theorem d_G_layPath_2 : xk_d c_G_layPath 2 (.aload_n 0) 1 3 := ⟨by decide +kernel, rfl⟩
theorem d_G_layPath_3 : xk_d c_G_layPath 3 (.getfield 18) 3 6 := ⟨by decide +kernel, rfl⟩
theorem d_G_layPath_6 : xk_d c_G_layPath 6 (.iload_n 1) 1 7 := ⟨by decide +kernel, rfl⟩
theorem d_G_layPath_7 : xk_d c_G_layPath 7 (.iaload) 1 8 := ⟨by decide +kernel, rfl⟩
theorem d_G_layPath_8 : xk_d c_G_layPath 8 (.iconst 1) 1 9 := ⟨by decide +kernel, rfl⟩
theorem d_G_layPath_9 : xk_d c_G_layPath 9 (.isub) 1 10 := ⟨by decide +kernel, rfl⟩
theorem d_G_layPath_10 : xk_d c_G_layPath 10 (.istore 4) 2 12 := ⟨by decide +kernel, rfl⟩
theorem d_G_layPath_12 : xk_d c_G_layPath 12 (.iload 4) 2 14 := ⟨by decide +kernel, rfl⟩
theorem d_G_layPath_14 : xk_b c_G_layPath 14 (.ifCond .lt 21) 17 (21) 35 := ⟨by decide +kernel, rfl, by decide⟩
theorem d_G_layPath_17 : xk_d c_G_layPath 17 (.aload_n 2) 1 18 := ⟨by decide +kernel, rfl⟩
theorem d_G_layPath_18 : xk_d c_G_layPath 18 (.iload 4) 2 20 := ⟨by decide +kernel, rfl⟩
theorem d_G_layPath_20 : xk_d c_G_layPath 20 (.iload_n 3) 1 21 := ⟨by decide +kernel, rfl⟩
theorem d_G_layPath_21 : xk_d c_G_layPath 21 (.iastore) 1 22 := ⟨by decide +kernel, rfl⟩
theorem d_G_layPath_22 : xk_d c_G_layPath 22 (.aload_n 0) 1 23 := ⟨by decide +kernel, rfl⟩
theorem d_G_layPath_23 : xk_d c_G_layPath 23 (.getfield 15) 3 26 := ⟨by decide +kernel, rfl⟩
theorem d_G_layPath_26 : xk_d c_G_layPath 26 (.iload_n 3) 1 27 := ⟨by decide +kernel, rfl⟩
theorem d_G_layPath_27 : xk_d c_G_layPath 27 (.iaload) 1 28 := ⟨by decide +kernel, rfl⟩
theorem d_G_layPath_28 : xk_d c_G_layPath 28 (.istore_n 3) 1 29 := ⟨by decide +kernel, rfl⟩
theorem d_G_layPath_29 : xk_d c_G_layPath 29 (.iinc 4 (-1)) 3 32 := ⟨by decide +kernel, rfl⟩
theorem d_G_layPath_32 : xk_b c_G_layPath 32 (.goto (-20)) 35 (-20) 12 := ⟨by decide +kernel, rfl, by decide⟩
theorem d_G_layPath_35 : xk_d c_G_layPath 35 (.return_) 1 36 := ⟨by decide +kernel, rfl⟩
theorem d_G_distance_0 : xk_d c_G_distance 0 (.iload_n 0) 1 1 := ⟨by decide +kernel, rfl⟩
theorem d_G_distance_1 : xk_d c_G_distance 1 (.bipush 8) 2 3 := ⟨by decide +kernel, rfl⟩
theorem d_G_distance_3 : xk_d c_G_distance 3 (.irem) 1 4 := ⟨by decide +kernel, rfl⟩
theorem d_G_distance_4 : xk_d c_G_distance 4 (.iload_n 1) 1 5 := ⟨by decide +kernel, rfl⟩
theorem d_G_distance_5 : xk_d c_G_distance 5 (.bipush 8) 2 7 := ⟨by decide +kernel, rfl⟩
theorem d_G_distance_7 : xk_d c_G_distance 7 (.irem) 1 8 := ⟨by decide +kernel, rfl⟩
theorem d_G_distance_8 : xk_d c_G_distance 8 (.isub) 1 9 := ⟨by decide +kernel, rfl⟩
theorem d_G_distance_9 : xk_d c_G_distance 9 (.invokestatic 41) 3 12 := ⟨by decide +kernel, rfl⟩
theorem d_G_distance_12 : xk_d c_G_distance 12 (.iload_n 0) 1 13 := ⟨by decide +kernel, rfl⟩
theorem d_G_distance_13 : xk_d c_G_distance 13 (.bipush 8) 2 15 := ⟨by decide +kernel, rfl⟩
theorem d_G_distance_15 : xk_d c_G_distance 15 (.idiv) 1 16 := ⟨by decide +kernel, rfl⟩
theorem d_G_distance_16 : xk_d c_G_distance 16 (.iload_n 1) 1 17 := ⟨by decide +kernel, rfl⟩
theorem d_G_distance_17 : xk_d c_G_distance 17 (.bipush 8) 2 19 := ⟨by decide +kernel, rfl⟩
theorem d_G_distance_19 : xk_d c_G_distance 19 (.idiv) 1 20 := ⟨by decide +kernel, rfl⟩
theorem d_G_distance_20 : xk_d c_G_distance 20 (.isub) 1 21 := ⟨by decide +kernel, rfl⟩
theorem d_G_distance_21 : xk_d c_G_distance 21 (.invokestatic 41) 3 24 := ⟨by decide +kernel, rfl⟩
theorem d_G_distance_24 : xk_d c_G_distance 24 (.iadd) 1 25 := ⟨by decide +kernel, rfl⟩
theorem d_G_distance_25 : xk_d c_G_distance 25 (.ireturn) 1 26 := ⟨by decide +kernel, rfl⟩
theorem d_G_beside_0 : xk_d c_G_beside 0 (.iload_n 1) 1 1 := ⟨by decide +kernel, rfl⟩
theorem d_G_beside_1 : decode c_G_beside 1 = .ok (.tableswitch 74 0 2 #[27, 42, 59], 27) := by decide +kernel
theorem d_G_beside_28 : xk_d c_G_beside 28 (.iload_n 0) 1 29 := ⟨by decide +kernel, rfl⟩
theorem d_G_beside_29 : xk_d c_G_beside 29 (.bipush 8) 2 31 := ⟨by decide +kernel, rfl⟩
theorem d_G_beside_31 : xk_b c_G_beside 31 (.if_icmp .lt 10) 34 (10) 41 := ⟨by decide +kernel, rfl, by decide⟩
theorem d_G_beside_34 : xk_d c_G_beside 34 (.iload_n 0) 1 35 := ⟨by decide +kernel, rfl⟩
theorem d_G_beside_35 : xk_d c_G_beside 35 (.bipush 8) 2 37 := ⟨by decide +kernel, rfl⟩
theorem d_G_beside_37 : xk_d c_G_beside 37 (.isub) 1 38 := ⟨by decide +kernel, rfl⟩
theorem d_G_beside_38 : xk_b c_G_beside 38 (.goto 4) 41 (4) 42 := ⟨by decide +kernel, rfl, by decide⟩
theorem d_G_beside_41 : xk_d c_G_beside 41 (.iconst (-1)) 1 42 := ⟨by decide +kernel, rfl⟩
theorem d_G_beside_42 : xk_d c_G_beside 42 (.ireturn) 1 43 := ⟨by decide +kernel, rfl⟩
theorem d_G_beside_43 : xk_d c_G_beside 43 (.iload_n 0) 1 44 := ⟨by decide +kernel, rfl⟩
theorem d_G_beside_44 : xk_d c_G_beside 44 (.bipush 8) 2 46 := ⟨by decide +kernel, rfl⟩
theorem d_G_beside_46 : xk_d c_G_beside 46 (.irem) 1 47 := ⟨by decide +kernel, rfl⟩
theorem d_G_beside_47 : xk_d c_G_beside 47 (.bipush 7) 2 49 := ⟨by decide +kernel, rfl⟩
theorem d_G_beside_49 : xk_b c_G_beside 49 (.if_icmp .ge 9) 52 (9) 58 := ⟨by decide +kernel, rfl, by decide⟩
theorem d_G_beside_52 : xk_d c_G_beside 52 (.iload_n 0) 1 53 := ⟨by decide +kernel, rfl⟩
theorem d_G_beside_53 : xk_d c_G_beside 53 (.iconst 1) 1 54 := ⟨by decide +kernel, rfl⟩
theorem d_G_beside_54 : xk_d c_G_beside 54 (.iadd) 1 55 := ⟨by decide +kernel, rfl⟩
theorem d_G_beside_55 : xk_b c_G_beside 55 (.goto 4) 58 (4) 59 := ⟨by decide +kernel, rfl, by decide⟩
theorem d_G_beside_58 : xk_d c_G_beside 58 (.iconst (-1)) 1 59 := ⟨by decide +kernel, rfl⟩
theorem d_G_beside_59 : xk_d c_G_beside 59 (.ireturn) 1 60 := ⟨by decide +kernel, rfl⟩
theorem d_G_beside_60 : xk_d c_G_beside 60 (.iload_n 0) 1 61 := ⟨by decide +kernel, rfl⟩
theorem d_G_beside_61 : xk_d c_G_beside 61 (.bipush 56) 2 63 := ⟨by decide +kernel, rfl⟩
theorem d_G_beside_63 : xk_b c_G_beside 63 (.if_icmp .ge 10) 66 (10) 73 := ⟨by decide +kernel, rfl, by decide⟩
theorem d_G_beside_66 : xk_d c_G_beside 66 (.iload_n 0) 1 67 := ⟨by decide +kernel, rfl⟩
theorem d_G_beside_67 : xk_d c_G_beside 67 (.bipush 8) 2 69 := ⟨by decide +kernel, rfl⟩
theorem d_G_beside_69 : xk_d c_G_beside 69 (.iadd) 1 70 := ⟨by decide +kernel, rfl⟩
theorem d_G_beside_70 : xk_b c_G_beside 70 (.goto 4) 73 (4) 74 := ⟨by decide +kernel, rfl, by decide⟩
theorem d_G_beside_73 : xk_d c_G_beside 73 (.iconst (-1)) 1 74 := ⟨by decide +kernel, rfl⟩
theorem d_G_beside_74 : xk_d c_G_beside 74 (.ireturn) 1 75 := ⟨by decide +kernel, rfl⟩
theorem d_G_beside_75 : xk_d c_G_beside 75 (.iload_n 0) 1 76 := ⟨by decide +kernel, rfl⟩
theorem d_G_beside_76 : xk_d c_G_beside 76 (.bipush 8) 2 78 := ⟨by decide +kernel, rfl⟩
theorem d_G_beside_78 : xk_d c_G_beside 78 (.irem) 1 79 := ⟨by decide +kernel, rfl⟩
theorem d_G_beside_79 : xk_b c_G_beside 79 (.ifCond .le 9) 82 (9) 88 := ⟨by decide +kernel, rfl, by decide⟩
theorem d_G_beside_82 : xk_d c_G_beside 82 (.iload_n 0) 1 83 := ⟨by decide +kernel, rfl⟩
theorem d_G_beside_83 : xk_d c_G_beside 83 (.iconst 1) 1 84 := ⟨by decide +kernel, rfl⟩
theorem d_G_beside_84 : xk_d c_G_beside 84 (.isub) 1 85 := ⟨by decide +kernel, rfl⟩
theorem d_G_beside_85 : xk_b c_G_beside 85 (.goto 4) 88 (4) 89 := ⟨by decide +kernel, rfl, by decide⟩
theorem d_G_beside_88 : xk_d c_G_beside 88 (.iconst (-1)) 1 89 := ⟨by decide +kernel, rfl⟩
theorem d_G_beside_89 : xk_d c_G_beside 89 (.ireturn) 1 90 := ⟨by decide +kernel, rfl⟩
theorem d_L_init_0 : xk_d c_L_init 0 (.aload_n 0) 1 1 := ⟨by decide +kernel, rfl⟩
theorem d_L_init_1 : xk_d c_L_init 1 (.invokespecial 3) 3 4 := ⟨by decide +kernel, rfl⟩
theorem d_L_init_4 : xk_d c_L_init 4 (.aload_n 0) 1 5 := ⟨by decide +kernel, rfl⟩
theorem d_L_init_5 : xk_d c_L_init 5 (.bipush 24) 2 7 := ⟨by decide +kernel, rfl⟩
theorem d_L_init_7 : xk_d c_L_init 7 (.newarray .int) 2 9 := ⟨by decide +kernel, rfl⟩
theorem d_L_init_9 : xk_d c_L_init 9 (.putfield 9) 3 12 := ⟨by decide +kernel, rfl⟩
theorem d_L_init_12 : xk_d c_L_init 12 (.aload_n 0) 1 13 := ⟨by decide +kernel, rfl⟩
theorem d_L_init_13 : xk_d c_L_init 13 (.bipush 24) 2 15 := ⟨by decide +kernel, rfl⟩
theorem d_L_init_15 : xk_d c_L_init 15 (.newarray .int) 2 17 := ⟨by decide +kernel, rfl⟩
theorem d_L_init_17 : xk_d c_L_init 17 (.putfield 15) 3 20 := ⟨by decide +kernel, rfl⟩
theorem d_L_init_20 : xk_d c_L_init 20 (.aload_n 0) 1 21 := ⟨by decide +kernel, rfl⟩
theorem d_L_init_21 : xk_d c_L_init 21 (.bipush 24) 2 23 := ⟨by decide +kernel, rfl⟩
theorem d_L_init_23 : xk_d c_L_init 23 (.newarray .int) 2 25 := ⟨by decide +kernel, rfl⟩
theorem d_L_init_25 : xk_d c_L_init 25 (.putfield 18) 3 28 := ⟨by decide +kernel, rfl⟩
theorem d_L_init_28 : xk_d c_L_init 28 (.aload_n 0) 1 29 := ⟨by decide +kernel, rfl⟩
theorem d_L_init_29 : xk_d c_L_init 29 (.bipush 24) 2 31 := ⟨by decide +kernel, rfl⟩
theorem d_L_init_31 : xk_d c_L_init 31 (.newarray .int) 2 33 := ⟨by decide +kernel, rfl⟩
theorem d_L_init_33 : xk_d c_L_init 33 (.putfield 21) 3 36 := ⟨by decide +kernel, rfl⟩
theorem d_L_init_36 : xk_d c_L_init 36 (.return_) 1 37 := ⟨by decide +kernel, rfl⟩
theorem d_L_add_0 : xk_d c_L_add 0 (.aload_n 0) 1 1 := ⟨by decide +kernel, rfl⟩
theorem d_L_add_1 : xk_d c_L_add 1 (.getfield 9) 3 4 := ⟨by decide +kernel, rfl⟩
theorem d_L_add_4 : xk_d c_L_add 4 (.aload_n 0) 1 5 := ⟨by decide +kernel, rfl⟩
theorem d_L_add_5 : xk_d c_L_add 5 (.getfield 24) 3 8 := ⟨by decide +kernel, rfl⟩
theorem d_L_add_8 : xk_d c_L_add 8 (.iload_n 1) 1 9 := ⟨by decide +kernel, rfl⟩
theorem d_L_add_9 : xk_d c_L_add 9 (.iastore) 1 10 := ⟨by decide +kernel, rfl⟩
theorem d_L_add_10 : xk_d c_L_add 10 (.aload_n 0) 1 11 := ⟨by decide +kernel, rfl⟩
theorem d_L_add_11 : xk_d c_L_add 11 (.getfield 15) 3 14 := ⟨by decide +kernel, rfl⟩
theorem d_L_add_14 : xk_d c_L_add 14 (.aload_n 0) 1 15 := ⟨by decide +kernel, rfl⟩
theorem d_L_add_15 : xk_d c_L_add 15 (.getfield 24) 3 18 := ⟨by decide +kernel, rfl⟩
theorem d_L_add_18 : xk_d c_L_add 18 (.iload_n 2) 1 19 := ⟨by decide +kernel, rfl⟩
theorem d_L_add_19 : xk_d c_L_add 19 (.iastore) 1 20 := ⟨by decide +kernel, rfl⟩
theorem d_L_add_20 : xk_d c_L_add 20 (.aload_n 0) 1 21 := ⟨by decide +kernel, rfl⟩
theorem d_L_add_21 : xk_d c_L_add 21 (.getfield 18) 3 24 := ⟨by decide +kernel, rfl⟩
theorem d_L_add_24 : xk_d c_L_add 24 (.aload_n 0) 1 25 := ⟨by decide +kernel, rfl⟩
theorem d_L_add_25 : xk_d c_L_add 25 (.getfield 24) 3 28 := ⟨by decide +kernel, rfl⟩
theorem d_L_add_28 : xk_d c_L_add 28 (.iload_n 3) 1 29 := ⟨by decide +kernel, rfl⟩
theorem d_L_add_29 : xk_d c_L_add 29 (.iastore) 1 30 := ⟨by decide +kernel, rfl⟩
theorem d_L_add_30 : xk_d c_L_add 30 (.aload_n 0) 1 31 := ⟨by decide +kernel, rfl⟩
theorem d_L_add_31 : xk_d c_L_add 31 (.getfield 21) 3 34 := ⟨by decide +kernel, rfl⟩
theorem d_L_add_34 : xk_d c_L_add 34 (.aload_n 0) 1 35 := ⟨by decide +kernel, rfl⟩
theorem d_L_add_35 : xk_d c_L_add 35 (.getfield 24) 3 38 := ⟨by decide +kernel, rfl⟩
theorem d_L_add_38 : xk_d c_L_add 38 (.iload_n 3) 1 39 := ⟨by decide +kernel, rfl⟩
theorem d_L_add_39 : xk_b c_L_add 39 (.ifCond .ne 7) 42 (7) 46 := ⟨by decide +kernel, rfl, by decide⟩
theorem d_L_add_42 : xk_d c_L_add 42 (.iconst 0) 1 43 := ⟨by decide +kernel, rfl⟩
theorem d_L_add_43 : xk_b c_L_add 43 (.goto 5) 46 (5) 48 := ⟨by decide +kernel, rfl, by decide⟩
theorem d_L_add_46 : xk_d c_L_add 46 (.iload 4) 2 48 := ⟨by decide +kernel, rfl⟩
theorem d_L_add_48 : xk_d c_L_add 48 (.iastore) 1 49 := ⟨by decide +kernel, rfl⟩
theorem d_L_add_49 : xk_d c_L_add 49 (.aload_n 0) 1 50 := ⟨by decide +kernel, rfl⟩
theorem d_L_add_50 : xk_d c_L_add 50 (.dup) 1 51 := ⟨by decide +kernel, rfl⟩
theorem d_L_add_51 : xk_d c_L_add 51 (.getfield 24) 3 54 := ⟨by decide +kernel, rfl⟩
theorem d_L_add_54 : xk_d c_L_add 54 (.iconst 1) 1 55 := ⟨by decide +kernel, rfl⟩
theorem d_L_add_55 : xk_d c_L_add 55 (.iadd) 1 56 := ⟨by decide +kernel, rfl⟩
theorem d_L_add_56 : xk_d c_L_add 56 (.putfield 24) 3 59 := ⟨by decide +kernel, rfl⟩
theorem d_L_add_59 : xk_d c_L_add 59 (.aload_n 0) 1 60 := ⟨by decide +kernel, rfl⟩
theorem d_L_add_60 : xk_d c_L_add 60 (.getfield 24) 3 63 := ⟨by decide +kernel, rfl⟩
theorem d_L_add_63 : xk_d c_L_add 63 (.iconst 1) 1 64 := ⟨by decide +kernel, rfl⟩
theorem d_L_add_64 : xk_d c_L_add 64 (.isub) 1 65 := ⟨by decide +kernel, rfl⟩
theorem d_L_add_65 : xk_d c_L_add 65 (.ireturn) 1 66 := ⟨by decide +kernel, rfl⟩
theorem d_L_remove_0 : xk_d c_L_remove 0 (.aload_n 0) 1 1 := ⟨by decide +kernel, rfl⟩
theorem d_L_remove_1 : xk_d c_L_remove 1 (.aload_n 0) 1 2 := ⟨by decide +kernel, rfl⟩
theorem d_L_remove_2 : xk_d c_L_remove 2 (.getfield 9) 3 5 := ⟨by decide +kernel, rfl⟩
theorem d_L_remove_5 : xk_d c_L_remove 5 (.iload_n 1) 1 6 := ⟨by decide +kernel, rfl⟩
theorem d_L_remove_6 : xk_d c_L_remove 6 (.invokevirtual 28) 3 9 := ⟨by decide +kernel, rfl⟩
theorem d_L_remove_9 : xk_d c_L_remove 9 (.aload_n 0) 1 10 := ⟨by decide +kernel, rfl⟩
theorem d_L_remove_10 : xk_d c_L_remove 10 (.aload_n 0) 1 11 := ⟨by decide +kernel, rfl⟩
theorem d_L_remove_11 : xk_d c_L_remove 11 (.getfield 15) 3 14 := ⟨by decide +kernel, rfl⟩
theorem d_L_remove_14 : xk_d c_L_remove 14 (.iload_n 1) 1 15 := ⟨by decide +kernel, rfl⟩
theorem d_L_remove_15 : xk_d c_L_remove 15 (.invokevirtual 28) 3 18 := ⟨by decide +kernel, rfl⟩
theorem d_L_remove_18 : xk_d c_L_remove 18 (.aload_n 0) 1 19 := ⟨by decide +kernel, rfl⟩
theorem d_L_remove_19 : xk_d c_L_remove 19 (.aload_n 0) 1 20 := ⟨by decide +kernel, rfl⟩
theorem d_L_remove_20 : xk_d c_L_remove 20 (.getfield 18) 3 23 := ⟨by decide +kernel, rfl⟩
theorem d_L_remove_23 : xk_d c_L_remove 23 (.iload_n 1) 1 24 := ⟨by decide +kernel, rfl⟩
theorem d_L_remove_24 : xk_d c_L_remove 24 (.invokevirtual 28) 3 27 := ⟨by decide +kernel, rfl⟩
theorem d_L_remove_27 : xk_d c_L_remove 27 (.aload_n 0) 1 28 := ⟨by decide +kernel, rfl⟩
theorem d_L_remove_28 : xk_d c_L_remove 28 (.aload_n 0) 1 29 := ⟨by decide +kernel, rfl⟩
theorem d_L_remove_29 : xk_d c_L_remove 29 (.getfield 21) 3 32 := ⟨by decide +kernel, rfl⟩
theorem d_L_remove_32 : xk_d c_L_remove 32 (.iload_n 1) 1 33 := ⟨by decide +kernel, rfl⟩
theorem d_L_remove_33 : xk_d c_L_remove 33 (.invokevirtual 28) 3 36 := ⟨by decide +kernel, rfl⟩
theorem d_L_remove_36 : xk_d c_L_remove 36 (.aload_n 0) 1 37 := ⟨by decide +kernel, rfl⟩
theorem d_L_remove_37 : xk_d c_L_remove 37 (.dup) 1 38 := ⟨by decide +kernel, rfl⟩
theorem d_L_remove_38 : xk_d c_L_remove 38 (.getfield 24) 3 41 := ⟨by decide +kernel, rfl⟩
theorem d_L_remove_41 : xk_d c_L_remove 41 (.iconst 1) 1 42 := ⟨by decide +kernel, rfl⟩
theorem d_L_remove_42 : xk_d c_L_remove 42 (.isub) 1 43 := ⟨by decide +kernel, rfl⟩
theorem d_L_remove_43 : xk_d c_L_remove 43 (.putfield 24) 3 46 := ⟨by decide +kernel, rfl⟩
theorem d_L_remove_46 : xk_d c_L_remove 46 (.return_) 1 47 := ⟨by decide +kernel, rfl⟩
theorem d_L_closeGap_0 : xk_d c_L_closeGap 0 (.aload_n 1) 1 1 := ⟨by decide +kernel, rfl⟩
theorem d_L_closeGap_1 : xk_d c_L_closeGap 1 (.iload_n 2) 1 2 := ⟨by decide +kernel, rfl⟩
theorem d_L_closeGap_2 : xk_d c_L_closeGap 2 (.iconst 1) 1 3 := ⟨by decide +kernel, rfl⟩
theorem d_L_closeGap_3 : xk_d c_L_closeGap 3 (.iadd) 1 4 := ⟨by decide +kernel, rfl⟩
theorem d_L_closeGap_4 : xk_d c_L_closeGap 4 (.aload_n 1) 1 5 := ⟨by decide +kernel, rfl⟩
theorem d_L_closeGap_5 : xk_d c_L_closeGap 5 (.iload_n 2) 1 6 := ⟨by decide +kernel, rfl⟩
theorem d_L_closeGap_6 : xk_d c_L_closeGap 6 (.aload_n 0) 1 7 := ⟨by decide +kernel, rfl⟩
theorem d_L_closeGap_7 : xk_d c_L_closeGap 7 (.getfield 24) 3 10 := ⟨by decide +kernel, rfl⟩
theorem d_L_closeGap_10 : xk_d c_L_closeGap 10 (.iload_n 2) 1 11 := ⟨by decide +kernel, rfl⟩
theorem d_L_closeGap_11 : xk_d c_L_closeGap 11 (.isub) 1 12 := ⟨by decide +kernel, rfl⟩
theorem d_L_closeGap_12 : xk_d c_L_closeGap 12 (.iconst 1) 1 13 := ⟨by decide +kernel, rfl⟩
theorem d_L_closeGap_13 : xk_d c_L_closeGap 13 (.isub) 1 14 := ⟨by decide +kernel, rfl⟩
theorem d_L_closeGap_14 : xk_d c_L_closeGap 14 (.invokestatic 32) 3 17 := ⟨by decide +kernel, rfl⟩
theorem d_L_closeGap_17 : xk_d c_L_closeGap 17 (.return_) 1 18 := ⟨by decide +kernel, rfl⟩
theorem d_U_init_0 : xk_d c_U_init 0 (.aload_n 0) 1 1 := ⟨by decide +kernel, rfl⟩
theorem d_U_init_1 : xk_d c_U_init 1 (.invokespecial 3) 3 4 := ⟨by decide +kernel, rfl⟩
theorem d_U_init_4 : xk_d c_U_init 4 (.aload_n 0) 1 5 := ⟨by decide +kernel, rfl⟩
theorem d_U_init_5 : xk_d c_U_init 5 (.bipush 64) 2 7 := ⟨by decide +kernel, rfl⟩
theorem d_U_init_7 : xk_d c_U_init 7 (.newarray .int) 2 9 := ⟨by decide +kernel, rfl⟩
theorem d_U_init_9 : xk_d c_U_init 9 (.putfield 9) 3 12 := ⟨by decide +kernel, rfl⟩
theorem d_U_init_12 : xk_d c_U_init 12 (.return_) 1 13 := ⟨by decide +kernel, rfl⟩
theorem d_U_settle_0 : xk_d c_U_settle 0 (.aload_n 0) 1 1 := ⟨by decide +kernel, rfl⟩
theorem d_U_settle_1 : xk_d c_U_settle 1 (.iload_n 1) 1 2 := ⟨by decide +kernel, rfl⟩
theorem d_U_settle_2 : xk_d c_U_settle 2 (.putfield 15) 3 5 := ⟨by decide +kernel, rfl⟩
theorem d_U_settle_5 : xk_d c_U_settle 5 (.aload_n 0) 1 6 := ⟨by decide +kernel, rfl⟩
theorem d_U_settle_6 : xk_d c_U_settle 6 (.iload_n 2) 1 7 := ⟨by decide +kernel, rfl⟩
theorem d_U_settle_7 : xk_d c_U_settle 7 (.putfield 19) 3 10 := ⟨by decide +kernel, rfl⟩
theorem d_U_settle_10 : xk_d c_U_settle 10 (.aload_n 0) 1 11 := ⟨by decide +kernel, rfl⟩
theorem d_U_settle_11 : xk_d c_U_settle 11 (.invokevirtual 22) 3 14 := ⟨by decide +kernel, rfl⟩
theorem d_U_settle_14 : xk_d c_U_settle 14 (.return_) 1 15 := ⟨by decide +kernel, rfl⟩
theorem d_U_restart_0 : xk_d c_U_restart 0 (.aload_n 0) 1 1 := ⟨by decide +kernel, rfl⟩
theorem d_U_restart_1 : xk_d c_U_restart 1 (.aload_n 0) 1 2 := ⟨by decide +kernel, rfl⟩
theorem d_U_restart_2 : xk_d c_U_restart 2 (.getfield 19) 3 5 := ⟨by decide +kernel, rfl⟩
theorem d_U_restart_5 : xk_d c_U_restart 5 (.putfield 25) 3 8 := ⟨by decide +kernel, rfl⟩
theorem d_U_restart_8 : xk_d c_U_restart 8 (.aload_n 0) 1 9 := ⟨by decide +kernel, rfl⟩
theorem d_U_restart_9 : xk_d c_U_restart 9 (.bipush 20) 2 11 := ⟨by decide +kernel, rfl⟩
theorem d_U_restart_11 : xk_d c_U_restart 11 (.putfield 28) 3 14 := ⟨by decide +kernel, rfl⟩
theorem d_U_restart_14 : xk_d c_U_restart 14 (.aload_n 0) 1 15 := ⟨by decide +kernel, rfl⟩
theorem d_U_restart_15 : xk_d c_U_restart 15 (.iconst 0) 1 16 := ⟨by decide +kernel, rfl⟩
theorem d_U_restart_16 : xk_d c_U_restart 16 (.putfield 31) 3 19 := ⟨by decide +kernel, rfl⟩
theorem d_U_restart_19 : xk_d c_U_restart 19 (.aload_n 0) 1 20 := ⟨by decide +kernel, rfl⟩
theorem d_U_restart_20 : xk_d c_U_restart 20 (.iconst 0) 1 21 := ⟨by decide +kernel, rfl⟩
theorem d_U_restart_21 : xk_d c_U_restart 21 (.iconst 0) 1 22 := ⟨by decide +kernel, rfl⟩
theorem d_U_restart_22 : xk_d c_U_restart 22 (.invokevirtual 35) 3 25 := ⟨by decide +kernel, rfl⟩
theorem d_U_restart_25 : xk_d c_U_restart 25 (.return_) 1 26 := ⟨by decide +kernel, rfl⟩
theorem d_U_obey_0 : xk_d c_U_obey 0 (.aload_n 0) 1 1 := ⟨by decide +kernel, rfl⟩
theorem d_U_obey_1 : xk_d c_U_obey 1 (.iload_n 1) 1 2 := ⟨by decide +kernel, rfl⟩
theorem d_U_obey_2 : xk_d c_U_obey 2 (.putfield 39) 3 5 := ⟨by decide +kernel, rfl⟩
theorem d_U_obey_5 : xk_d c_U_obey 5 (.aload_n 0) 1 6 := ⟨by decide +kernel, rfl⟩
theorem d_U_obey_6 : xk_d c_U_obey 6 (.iload_n 2) 1 7 := ⟨by decide +kernel, rfl⟩
theorem d_U_obey_7 : xk_d c_U_obey 7 (.putfield 42) 3 10 := ⟨by decide +kernel, rfl⟩
theorem d_U_obey_10 : xk_d c_U_obey 10 (.aload_n 0) 1 11 := ⟨by decide +kernel, rfl⟩
theorem d_U_obey_11 : xk_d c_U_obey 11 (.iconst 0) 1 12 := ⟨by decide +kernel, rfl⟩
theorem d_U_obey_12 : xk_d c_U_obey 12 (.putfield 45) 3 15 := ⟨by decide +kernel, rfl⟩
theorem d_U_obey_15 : xk_d c_U_obey 15 (.aload_n 0) 1 16 := ⟨by decide +kernel, rfl⟩
theorem d_U_obey_16 : xk_d c_U_obey 16 (.invokevirtual 48) 3 19 := ⟨by decide +kernel, rfl⟩
theorem d_U_obey_19 : xk_d c_U_obey 19 (.return_) 1 20 := ⟨by decide +kernel, rfl⟩
theorem d_U_dropOrder_0 : xk_d c_U_dropOrder 0 (.aload_n 0) 1 1 := ⟨by decide +kernel, rfl⟩
theorem d_U_dropOrder_1 : xk_d c_U_dropOrder 1 (.iconst 0) 1 2 := ⟨by decide +kernel, rfl⟩
theorem d_U_dropOrder_2 : xk_d c_U_dropOrder 2 (.putfield 39) 3 5 := ⟨by decide +kernel, rfl⟩
theorem d_U_dropOrder_5 : xk_d c_U_dropOrder 5 (.aload_n 0) 1 6 := ⟨by decide +kernel, rfl⟩
theorem d_U_dropOrder_6 : xk_d c_U_dropOrder 6 (.iconst 0) 1 7 := ⟨by decide +kernel, rfl⟩
theorem d_U_dropOrder_7 : xk_d c_U_dropOrder 7 (.putfield 42) 3 10 := ⟨by decide +kernel, rfl⟩
theorem d_U_dropOrder_10 : xk_d c_U_dropOrder 10 (.return_) 1 11 := ⟨by decide +kernel, rfl⟩
theorem d_U_isDead_0 : xk_d c_U_isDead 0 (.aload_n 0) 1 1 := ⟨by decide +kernel, rfl⟩
theorem d_U_isDead_1 : xk_d c_U_isDead 1 (.getfield 28) 3 4 := ⟨by decide +kernel, rfl⟩
theorem d_U_isDead_4 : xk_b c_U_isDead 4 (.ifCond .ne 7) 7 (7) 11 := ⟨by decide +kernel, rfl, by decide⟩
theorem d_U_isDead_7 : xk_d c_U_isDead 7 (.iconst 1) 1 8 := ⟨by decide +kernel, rfl⟩
theorem d_U_isDead_8 : xk_b c_U_isDead 8 (.goto 4) 11 (4) 12 := ⟨by decide +kernel, rfl, by decide⟩
theorem d_U_isDead_11 : xk_d c_U_isDead 11 (.iconst 0) 1 12 := ⟨by decide +kernel, rfl⟩
theorem d_U_isDead_12 : xk_d c_U_isDead 12 (.ireturn) 1 13 := ⟨by decide +kernel, rfl⟩
theorem d_U_suffer_0 : xk_d c_U_suffer 0 (.aload_n 0) 1 1 := ⟨by decide +kernel, rfl⟩
theorem d_U_suffer_1 : xk_d c_U_suffer 1 (.iload_n 1) 1 2 := ⟨by decide +kernel, rfl⟩
theorem d_U_suffer_2 : xk_b c_U_suffer 2 (.ifCond .le 7) 5 (7) 9 := ⟨by decide +kernel, rfl, by decide⟩
theorem d_U_suffer_5 : xk_d c_U_suffer 5 (.iconst 1) 1 6 := ⟨by decide +kernel, rfl⟩
theorem d_U_suffer_6 : xk_b c_U_suffer 6 (.goto 4) 9 (4) 10 := ⟨by decide +kernel, rfl, by decide⟩
theorem d_U_suffer_9 : xk_d c_U_suffer 9 (.iconst 0) 1 10 := ⟨by decide +kernel, rfl⟩
theorem d_U_suffer_10 : xk_d c_U_suffer 10 (.putfield 31) 3 13 := ⟨by decide +kernel, rfl⟩
theorem d_U_suffer_13 : xk_d c_U_suffer 13 (.aload_n 0) 1 14 := ⟨by decide +kernel, rfl⟩
theorem d_U_suffer_14 : xk_d c_U_suffer 14 (.iconst 0) 1 15 := ⟨by decide +kernel, rfl⟩
theorem d_U_suffer_15 : xk_d c_U_suffer 15 (.aload_n 0) 1 16 := ⟨by decide +kernel, rfl⟩
theorem d_U_suffer_16 : xk_d c_U_suffer 16 (.getfield 28) 3 19 := ⟨by decide +kernel, rfl⟩
theorem d_U_suffer_19 : xk_d c_U_suffer 19 (.iload_n 1) 1 20 := ⟨by decide +kernel, rfl⟩
theorem d_U_suffer_20 : xk_d c_U_suffer 20 (.isub) 1 21 := ⟨by decide +kernel, rfl⟩
theorem d_U_suffer_21 : xk_d c_U_suffer 21 (.invokestatic 51) 3 24 := ⟨by decide +kernel, rfl⟩
theorem d_U_suffer_24 : xk_d c_U_suffer 24 (.putfield 28) 3 27 := ⟨by decide +kernel, rfl⟩
theorem d_U_suffer_27 : xk_d c_U_suffer 27 (.aload_n 0) 1 28 := ⟨by decide +kernel, rfl⟩
theorem d_U_suffer_28 : xk_d c_U_suffer 28 (.invokevirtual 57) 3 31 := ⟨by decide +kernel, rfl⟩
theorem d_U_suffer_31 : xk_b c_U_suffer 31 (.ifCond .eq 14) 34 (14) 45 := ⟨by decide +kernel, rfl, by decide⟩
theorem d_U_suffer_34 : xk_d c_U_suffer 34 (.aload_n 0) 1 35 := ⟨by decide +kernel, rfl⟩
theorem d_U_suffer_35 : xk_d c_U_suffer 35 (.iconst (-1)) 1 36 := ⟨by decide +kernel, rfl⟩
theorem d_U_suffer_36 : xk_d c_U_suffer 36 (.putfield 25) 3 39 := ⟨by decide +kernel, rfl⟩
theorem d_U_suffer_39 : xk_d c_U_suffer 39 (.aload_n 0) 1 40 := ⟨by decide +kernel, rfl⟩
theorem d_U_suffer_40 : xk_d c_U_suffer 40 (.iconst 0) 1 41 := ⟨by decide +kernel, rfl⟩
theorem d_U_suffer_41 : xk_d c_U_suffer 41 (.iconst 0) 1 42 := ⟨by decide +kernel, rfl⟩
theorem d_U_suffer_42 : xk_d c_U_suffer 42 (.invokevirtual 35) 3 45 := ⟨by decide +kernel, rfl⟩
theorem d_U_suffer_45 : xk_d c_U_suffer 45 (.return_) 1 46 := ⟨by decide +kernel, rfl⟩
theorem d_U_rest_0 : xk_d c_U_rest 0 (.aload_n 0) 1 1 := ⟨by decide +kernel, rfl⟩
theorem d_U_rest_1 : xk_d c_U_rest 1 (.invokevirtual 57) 3 4 := ⟨by decide +kernel, rfl⟩
theorem d_U_rest_4 : xk_b c_U_rest 4 (.ifCond .ne 36) 7 (36) 40 := ⟨by decide +kernel, rfl, by decide⟩
theorem d_U_rest_7 : xk_d c_U_rest 7 (.aload_n 0) 1 8 := ⟨by decide +kernel, rfl⟩
theorem d_U_rest_8 : xk_d c_U_rest 8 (.getfield 39) 3 11 := ⟨by decide +kernel, rfl⟩
theorem d_U_rest_11 : xk_b c_U_rest 11 (.ifCond .ne 29) 14 (29) 40 := ⟨by decide +kernel, rfl, by decide⟩
theorem d_U_rest_14 : xk_d c_U_rest 14 (.aload_n 0) 1 15 := ⟨by decide +kernel, rfl⟩
theorem d_U_rest_15 : xk_d c_U_rest 15 (.getfield 31) 3 18 := ⟨by decide +kernel, rfl⟩
theorem d_U_rest_18 : xk_b c_U_rest 18 (.ifCond .ne 22) 21 (22) 40 := ⟨by decide +kernel, rfl, by decide⟩
theorem d_U_rest_21 : xk_d c_U_rest 21 (.aload_n 0) 1 22 := ⟨by decide +kernel, rfl⟩
theorem d_U_rest_22 : xk_d c_U_rest 22 (.getfield 28) 3 25 := ⟨by decide +kernel, rfl⟩
theorem d_U_rest_25 : xk_d c_U_rest 25 (.bipush 20) 2 27 := ⟨by decide +kernel, rfl⟩
theorem d_U_rest_27 : xk_b c_U_rest 27 (.if_icmp .ge 13) 30 (13) 40 := ⟨by decide +kernel, rfl, by decide⟩
theorem d_U_rest_30 : xk_d c_U_rest 30 (.aload_n 0) 1 31 := ⟨by decide +kernel, rfl⟩
theorem d_U_rest_31 : xk_d c_U_rest 31 (.dup) 1 32 := ⟨by decide +kernel, rfl⟩
theorem d_U_rest_32 : xk_d c_U_rest 32 (.getfield 28) 3 35 := ⟨by decide +kernel, rfl⟩
theorem d_U_rest_35 : xk_d c_U_rest 35 (.iconst 1) 1 36 := ⟨by decide +kernel, rfl⟩
theorem d_U_rest_36 : xk_d c_U_rest 36 (.iadd) 1 37 := ⟨by decide +kernel, rfl⟩
theorem d_U_rest_37 : xk_d c_U_rest 37 (.putfield 28) 3 40 := ⟨by decide +kernel, rfl⟩
theorem d_U_rest_40 : xk_d c_U_rest 40 (.return_) 1 41 := ⟨by decide +kernel, rfl⟩
theorem d_U_clearPath_0 : xk_d c_U_clearPath 0 (.aload_n 0) 1 1 := ⟨by decide +kernel, rfl⟩
theorem d_U_clearPath_1 : xk_d c_U_clearPath 1 (.iconst 0) 1 2 := ⟨by decide +kernel, rfl⟩
theorem d_U_clearPath_2 : xk_d c_U_clearPath 2 (.putfield 61) 3 5 := ⟨by decide +kernel, rfl⟩
theorem d_U_clearPath_5 : xk_d c_U_clearPath 5 (.aload_n 0) 1 6 := ⟨by decide +kernel, rfl⟩
theorem d_U_clearPath_6 : xk_d c_U_clearPath 6 (.iconst 0) 1 7 := ⟨by decide +kernel, rfl⟩
theorem d_U_clearPath_7 : xk_d c_U_clearPath 7 (.putfield 64) 3 10 := ⟨by decide +kernel, rfl⟩
theorem d_U_clearPath_10 : xk_d c_U_clearPath 10 (.return_) 1 11 := ⟨by decide +kernel, rfl⟩
theorem d_U_pathLength_0 : xk_d c_U_pathLength 0 (.aload_n 0) 1 1 := ⟨by decide +kernel, rfl⟩
theorem d_U_pathLength_1 : xk_d c_U_pathLength 1 (.getfield 64) 3 4 := ⟨by decide +kernel, rfl⟩
theorem d_U_pathLength_4 : xk_d c_U_pathLength 4 (.aload_n 0) 1 5 := ⟨by decide +kernel, rfl⟩
theorem d_U_pathLength_5 : xk_d c_U_pathLength 5 (.getfield 61) 3 8 := ⟨by decide +kernel, rfl⟩
theorem d_U_pathLength_8 : xk_d c_U_pathLength 8 (.isub) 1 9 := ⟨by decide +kernel, rfl⟩
theorem d_U_pathLength_9 : xk_d c_U_pathLength 9 (.ireturn) 1 10 := ⟨by decide +kernel, rfl⟩
theorem d_U_pathTile_0 : xk_d c_U_pathTile 0 (.aload_n 0) 1 1 := ⟨by decide +kernel, rfl⟩
theorem d_U_pathTile_1 : xk_d c_U_pathTile 1 (.getfield 9) 3 4 := ⟨by decide +kernel, rfl⟩
theorem d_U_pathTile_4 : xk_d c_U_pathTile 4 (.aload_n 0) 1 5 := ⟨by decide +kernel, rfl⟩
theorem d_U_pathTile_5 : xk_d c_U_pathTile 5 (.getfield 61) 3 8 := ⟨by decide +kernel, rfl⟩
theorem d_U_pathTile_8 : xk_d c_U_pathTile 8 (.iload_n 1) 1 9 := ⟨by decide +kernel, rfl⟩
theorem d_U_pathTile_9 : xk_d c_U_pathTile 9 (.iadd) 1 10 := ⟨by decide +kernel, rfl⟩
theorem d_U_pathTile_10 : xk_d c_U_pathTile 10 (.iaload) 1 11 := ⟨by decide +kernel, rfl⟩
theorem d_U_pathTile_11 : xk_d c_U_pathTile 11 (.ireturn) 1 12 := ⟨by decide +kernel, rfl⟩
theorem d_U_isPathTo_0 : xk_d c_U_isPathTo 0 (.aload_n 0) 1 1 := ⟨by decide +kernel, rfl⟩
theorem d_U_isPathTo_1 : xk_d c_U_isPathTo 1 (.invokevirtual 67) 3 4 := ⟨by decide +kernel, rfl⟩
theorem d_U_isPathTo_4 : xk_b c_U_isPathTo 4 (.ifCond .le 22) 7 (22) 26 := ⟨by decide +kernel, rfl, by decide⟩
theorem d_U_isPathTo_7 : xk_d c_U_isPathTo 7 (.aload_n 0) 1 8 := ⟨by decide +kernel, rfl⟩
theorem d_U_isPathTo_8 : xk_d c_U_isPathTo 8 (.getfield 9) 3 11 := ⟨by decide +kernel, rfl⟩
theorem d_U_isPathTo_11 : xk_d c_U_isPathTo 11 (.aload_n 0) 1 12 := ⟨by decide +kernel, rfl⟩
theorem d_U_isPathTo_12 : xk_d c_U_isPathTo 12 (.getfield 64) 3 15 := ⟨by decide +kernel, rfl⟩
theorem d_U_isPathTo_15 : xk_d c_U_isPathTo 15 (.iconst 1) 1 16 := ⟨by decide +kernel, rfl⟩
theorem d_U_isPathTo_16 : xk_d c_U_isPathTo 16 (.isub) 1 17 := ⟨by decide +kernel, rfl⟩
theorem d_U_isPathTo_17 : xk_d c_U_isPathTo 17 (.iaload) 1 18 := ⟨by decide +kernel, rfl⟩
theorem d_U_isPathTo_18 : xk_d c_U_isPathTo 18 (.iload_n 1) 1 19 := ⟨by decide +kernel, rfl⟩
theorem d_U_isPathTo_19 : xk_b c_U_isPathTo 19 (.if_icmp .ne 7) 22 (7) 26 := ⟨by decide +kernel, rfl, by decide⟩
theorem d_U_isPathTo_22 : xk_d c_U_isPathTo 22 (.iconst 1) 1 23 := ⟨by decide +kernel, rfl⟩
theorem d_U_isPathTo_23 : xk_b c_U_isPathTo 23 (.goto 4) 26 (4) 27 := ⟨by decide +kernel, rfl, by decide⟩
theorem d_U_isPathTo_26 : xk_d c_U_isPathTo 26 (.iconst 0) 1 27 := ⟨by decide +kernel, rfl⟩
theorem d_U_isPathTo_27 : xk_d c_U_isPathTo 27 (.ireturn) 1 28 := ⟨by decide +kernel, rfl⟩
theorem d_U_runsOutOfPatience_0 : xk_d c_U_runsOutOfPatience 0 (.aload_n 0) 1 1 := ⟨by decide +kernel, rfl⟩
theorem d_U_runsOutOfPatience_1 : xk_d c_U_runsOutOfPatience 1 (.dup) 1 2 := ⟨by decide +kernel, rfl⟩
theorem d_U_runsOutOfPatience_2 : xk_d c_U_runsOutOfPatience 2 (.getfield 45) 3 5 := ⟨by decide +kernel, rfl⟩
theorem d_U_runsOutOfPatience_5 : xk_d c_U_runsOutOfPatience 5 (.iconst 1) 1 6 := ⟨by decide +kernel, rfl⟩
theorem d_U_runsOutOfPatience_6 : xk_d c_U_runsOutOfPatience 6 (.iadd) 1 7 := ⟨by decide +kernel, rfl⟩
theorem d_U_runsOutOfPatience_7 : xk_d c_U_runsOutOfPatience 7 (.putfield 45) 3 10 := ⟨by decide +kernel, rfl⟩
theorem d_U_runsOutOfPatience_10 : xk_d c_U_runsOutOfPatience 10 (.aload_n 0) 1 11 := ⟨by decide +kernel, rfl⟩
theorem d_U_runsOutOfPatience_11 : xk_d c_U_runsOutOfPatience 11 (.getfield 45) 3 14 := ⟨by decide +kernel, rfl⟩
theorem d_U_runsOutOfPatience_14 : xk_d c_U_runsOutOfPatience 14 (.iconst 3) 1 15 := ⟨by decide +kernel, rfl⟩
theorem d_U_runsOutOfPatience_15 : xk_b c_U_runsOutOfPatience 15 (.if_icmp .ge 5) 18 (5) 20 := ⟨by decide +kernel, rfl, by decide⟩
theorem d_U_runsOutOfPatience_18 : xk_d c_U_runsOutOfPatience 18 (.iconst 0) 1 19 := ⟨by decide +kernel, rfl⟩
theorem d_U_runsOutOfPatience_19 : xk_d c_U_runsOutOfPatience 19 (.ireturn) 1 20 := ⟨by decide +kernel, rfl⟩
theorem d_U_runsOutOfPatience_20 : xk_d c_U_runsOutOfPatience 20 (.aload_n 0) 1 21 := ⟨by decide +kernel, rfl⟩
theorem d_U_runsOutOfPatience_21 : xk_d c_U_runsOutOfPatience 21 (.iconst 0) 1 22 := ⟨by decide +kernel, rfl⟩
theorem d_U_runsOutOfPatience_22 : xk_d c_U_runsOutOfPatience 22 (.putfield 45) 3 25 := ⟨by decide +kernel, rfl⟩
theorem d_U_runsOutOfPatience_25 : xk_d c_U_runsOutOfPatience 25 (.iconst 1) 1 26 := ⟨by decide +kernel, rfl⟩
theorem d_U_runsOutOfPatience_26 : xk_d c_U_runsOutOfPatience 26 (.ireturn) 1 27 := ⟨by decide +kernel, rfl⟩
theorem d_U_step_0 : xk_d c_U_step 0 (.aload_n 0) 1 1 := ⟨by decide +kernel, rfl⟩
theorem d_U_step_1 : xk_d c_U_step 1 (.aload_n 0) 1 2 := ⟨by decide +kernel, rfl⟩
theorem d_U_step_2 : xk_d c_U_step 2 (.getfield 9) 3 5 := ⟨by decide +kernel, rfl⟩
theorem d_U_step_5 : xk_d c_U_step 5 (.aload_n 0) 1 6 := ⟨by decide +kernel, rfl⟩
theorem d_U_step_6 : xk_d c_U_step 6 (.getfield 61) 3 9 := ⟨by decide +kernel, rfl⟩
theorem d_U_step_9 : xk_d c_U_step 9 (.iaload) 1 10 := ⟨by decide +kernel, rfl⟩
theorem d_U_step_10 : xk_d c_U_step 10 (.putfield 25) 3 13 := ⟨by decide +kernel, rfl⟩
theorem d_U_step_13 : xk_d c_U_step 13 (.aload_n 0) 1 14 := ⟨by decide +kernel, rfl⟩
theorem d_U_step_14 : xk_d c_U_step 14 (.dup) 1 15 := ⟨by decide +kernel, rfl⟩
theorem d_U_step_15 : xk_d c_U_step 15 (.getfield 61) 3 18 := ⟨by decide +kernel, rfl⟩
theorem d_U_step_18 : xk_d c_U_step 18 (.iconst 1) 1 19 := ⟨by decide +kernel, rfl⟩
theorem d_U_step_19 : xk_d c_U_step 19 (.iadd) 1 20 := ⟨by decide +kernel, rfl⟩
theorem d_U_step_20 : xk_d c_U_step 20 (.putfield 61) 3 23 := ⟨by decide +kernel, rfl⟩
theorem d_U_step_23 : xk_d c_U_step 23 (.aload_n 0) 1 24 := ⟨by decide +kernel, rfl⟩
theorem d_U_step_24 : xk_d c_U_step 24 (.iconst 0) 1 25 := ⟨by decide +kernel, rfl⟩
theorem d_U_step_25 : xk_d c_U_step 25 (.putfield 45) 3 28 := ⟨by decide +kernel, rfl⟩
theorem d_U_step_28 : xk_d c_U_step 28 (.aload_n 0) 1 29 := ⟨by decide +kernel, rfl⟩
theorem d_U_step_29 : xk_d c_U_step 29 (.getfield 39) 3 32 := ⟨by decide +kernel, rfl⟩
theorem d_U_step_32 : xk_d c_U_step 32 (.iconst 1) 1 33 := ⟨by decide +kernel, rfl⟩
theorem d_U_step_33 : xk_b c_U_step 33 (.if_icmp .ne 18) 36 (18) 51 := ⟨by decide +kernel, rfl, by decide⟩
theorem d_U_step_36 : xk_d c_U_step 36 (.aload_n 0) 1 37 := ⟨by decide +kernel, rfl⟩
theorem d_U_step_37 : xk_d c_U_step 37 (.getfield 25) 3 40 := ⟨by decide +kernel, rfl⟩
theorem d_U_step_40 : xk_d c_U_step 40 (.aload_n 0) 1 41 := ⟨by decide +kernel, rfl⟩
theorem d_U_step_41 : xk_d c_U_step 41 (.getfield 42) 3 44 := ⟨by decide +kernel, rfl⟩
theorem d_U_step_44 : xk_b c_U_step 44 (.if_icmp .ne 7) 47 (7) 51 := ⟨by decide +kernel, rfl, by decide⟩
theorem d_U_step_47 : xk_d c_U_step 47 (.aload_n 0) 1 48 := ⟨by decide +kernel, rfl⟩
theorem d_U_step_48 : xk_d c_U_step 48 (.invokevirtual 71) 3 51 := ⟨by decide +kernel, rfl⟩
theorem d_U_step_51 : xk_d c_U_step 51 (.return_) 1 52 := ⟨by decide +kernel, rfl⟩
theorem d_A_fill_0 : xk_d c_A_fill 0 (.iconst 0) 1 1 := ⟨by decide +kernel, rfl⟩
theorem d_A_fill_1 : xk_d c_A_fill 1 (.istore_n 2) 1 2 := ⟨by decide +kernel, rfl⟩
theorem d_A_fill_2 : xk_d c_A_fill 2 (.aload_n 0) 1 3 := ⟨by decide +kernel, rfl⟩
theorem d_A_fill_3 : xk_d c_A_fill 3 (.arraylength) 1 4 := ⟨by decide +kernel, rfl⟩
theorem d_A_fill_4 : xk_d c_A_fill 4 (.istore_n 3) 1 5 := ⟨by decide +kernel, rfl⟩
theorem d_A_fill_5 : xk_d c_A_fill 5 (.iload_n 2) 1 6 := ⟨by decide +kernel, rfl⟩
theorem d_A_fill_6 : xk_d c_A_fill 6 (.iload_n 3) 1 7 := ⟨by decide +kernel, rfl⟩
theorem d_A_fill_7 : xk_b c_A_fill 7 (.if_icmp .ge 13) 10 (13) 20 := ⟨by decide +kernel, rfl, by decide⟩
theorem d_A_fill_10 : xk_d c_A_fill 10 (.aload_n 0) 1 11 := ⟨by decide +kernel, rfl⟩
theorem d_A_fill_11 : xk_d c_A_fill 11 (.iload_n 2) 1 12 := ⟨by decide +kernel, rfl⟩
theorem d_A_fill_12 : xk_d c_A_fill 12 (.iload_n 1) 1 13 := ⟨by decide +kernel, rfl⟩
theorem d_A_fill_13 : xk_d c_A_fill 13 (.iastore) 1 14 := ⟨by decide +kernel, rfl⟩
theorem d_A_fill_14 : xk_d c_A_fill 14 (.iinc 2 1) 3 17 := ⟨by decide +kernel, rfl⟩
theorem d_A_fill_17 : xk_b c_A_fill 17 (.goto (-12)) 20 (-12) 5 := ⟨by decide +kernel, rfl, by decide⟩
theorem d_A_fill_20 : xk_d c_A_fill 20 (.return_) 1 21 := ⟨by decide +kernel, rfl⟩
end
section
/-! decode rows -/
theorem d_P_init_0 : xk_d c_P_init 0 (.aload_n 0) 1 1 := ⟨by decide +kernel, rfl⟩
theorem d_P_init_1 : xk_d c_P_init 1 (.invokespecial 3) 3 4 := ⟨by decide +kernel, rfl⟩
theorem d_P_init_4 : xk_d c_P_init 4 (.aload_n 0) 1 5 := ⟨by decide +kernel, rfl⟩
theorem d_P_init_5 : xk_d c_P_init 5 (.bipush 8) 2 7 := ⟨by decide +kernel, rfl⟩
theorem d_P_init_7 : xk_d c_P_init 7 (.anewarray 9) 3 10 := ⟨by decide +kernel, rfl⟩
theorem d_P_init_10 : xk_d c_P_init 10 (.putfield 11) 3 13 := ⟨by decide +kernel, rfl⟩
theorem d_P_init_13 : xk_d c_P_init 13 (.aload_n 0) 1 14 := ⟨by decide +kernel, rfl⟩
theorem d_P_init_14 : xk_d c_P_init 14 (.bipush 8) 2 16 := ⟨by decide +kernel, rfl⟩
theorem d_P_init_16 : xk_d c_P_init 16 (.newarray .int) 2 18 := ⟨by decide +kernel, rfl⟩
theorem d_P_init_18 : xk_d c_P_init 18 (.putfield 17) 3 21 := ⟨by decide +kernel, rfl⟩
theorem d_P_init_21 : xk_d c_P_init 21 (.aload_n 0) 1 22 := ⟨by decide +kernel, rfl⟩
theorem d_P_init_22 : xk_d c_P_init 22 (.aload_n 1) 1 23 := ⟨by decide +kernel, rfl⟩
theorem d_P_init_23 : xk_d c_P_init 23 (.putfield 21) 3 26 := ⟨by decide +kernel, rfl⟩
theorem d_P_init_26 : xk_d c_P_init 26 (.iconst 0) 1 27 := ⟨by decide +kernel, rfl⟩
theorem d_P_init_27 : xk_d c_P_init 27 (.istore_n 2) 1 28 := ⟨by decide +kernel, rfl⟩
theorem d_P_init_28 : xk_d c_P_init 28 (.iload_n 2) 1 29 := ⟨by decide +kernel, rfl⟩
theorem d_P_init_29 : xk_d c_P_init 29 (.bipush 8) 2 31 := ⟨by decide +kernel, rfl⟩
theorem d_P_init_31 : xk_b c_P_init 31 (.if_icmp .ge 22) 34 (22) 53 := ⟨by decide +kernel, rfl, by decide⟩
theorem d_P_init_34 : xk_d c_P_init 34 (.aload_n 0) 1 35 := ⟨by decide +kernel, rfl⟩
theorem d_P_init_35 : xk_d c_P_init 35 (.getfield 11) 3 38 := ⟨by decide +kernel, rfl⟩
theorem d_P_init_38 : xk_d c_P_init 38 (.iload_n 2) 1 39 := ⟨by decide +kernel, rfl⟩
theorem d_P_init_39 : xk_d c_P_init 39 (.new 9) 3 42 := ⟨by decide +kernel, rfl⟩
theorem d_P_init_42 : xk_d c_P_init 42 (.dup) 1 43 := ⟨by decide +kernel, rfl⟩
theorem d_P_init_43 : xk_d c_P_init 43 (.invokespecial 25) 3 46 := ⟨by decide +kernel, rfl⟩
theorem d_P_init_46 : xk_d c_P_init 46 (.aastore) 1 47 := ⟨by decide +kernel, rfl⟩
theorem d_P_init_47 : xk_d c_P_init 47 (.iinc 2 1) 3 50 := ⟨by decide +kernel, rfl⟩
theorem d_P_init_50 : xk_b c_P_init 50 (.goto (-22)) 53 (-22) 28 := ⟨by decide +kernel, rfl, by decide⟩
theorem d_P_init_53 : xk_d c_P_init 53 (.return_) 1 54 := ⟨by decide +kernel, rfl⟩
theorem d_P_place_0 : xk_d c_P_place 0 (.aload_n 0) 1 1 := ⟨by decide +kernel, rfl⟩
theorem d_P_place_1 : xk_d c_P_place 1 (.getfield 11) 3 4 := ⟨by decide +kernel, rfl⟩
theorem d_P_place_4 : xk_d c_P_place 4 (.aload_n 0) 1 5 := ⟨by decide +kernel, rfl⟩
theorem d_P_place_5 : xk_d c_P_place 5 (.getfield 26) 3 8 := ⟨by decide +kernel, rfl⟩
theorem d_P_place_8 : xk_d c_P_place 8 (.aaload) 1 9 := ⟨by decide +kernel, rfl⟩
theorem d_P_place_9 : xk_d c_P_place 9 (.iload_n 1) 1 10 := ⟨by decide +kernel, rfl⟩
theorem d_P_place_10 : xk_d c_P_place 10 (.iload_n 2) 1 11 := ⟨by decide +kernel, rfl⟩
theorem d_P_place_11 : xk_d c_P_place 11 (.invokevirtual 30) 3 14 := ⟨by decide +kernel, rfl⟩
theorem d_P_place_14 : xk_d c_P_place 14 (.aload_n 0) 1 15 := ⟨by decide +kernel, rfl⟩
theorem d_P_place_15 : xk_d c_P_place 15 (.dup) 1 16 := ⟨by decide +kernel, rfl⟩
theorem d_P_place_16 : xk_d c_P_place 16 (.getfield 26) 3 19 := ⟨by decide +kernel, rfl⟩
theorem d_P_place_19 : xk_d c_P_place 19 (.iconst 1) 1 20 := ⟨by decide +kernel, rfl⟩
theorem d_P_place_20 : xk_d c_P_place 20 (.iadd) 1 21 := ⟨by decide +kernel, rfl⟩
theorem d_P_place_21 : xk_d c_P_place 21 (.putfield 26) 3 24 := ⟨by decide +kernel, rfl⟩
theorem d_P_place_24 : xk_d c_P_place 24 (.aload_n 0) 1 25 := ⟨by decide +kernel, rfl⟩
theorem d_P_place_25 : xk_d c_P_place 25 (.getfield 26) 3 28 := ⟨by decide +kernel, rfl⟩
theorem d_P_place_28 : xk_d c_P_place 28 (.iconst 1) 1 29 := ⟨by decide +kernel, rfl⟩
theorem d_P_place_29 : xk_d c_P_place 29 (.isub) 1 30 := ⟨by decide +kernel, rfl⟩
theorem d_P_place_30 : xk_d c_P_place 30 (.ireturn) 1 31 := ⟨by decide +kernel, rfl⟩
theorem d_P_restart_0 : xk_d c_P_restart 0 (.iconst 0) 1 1 := ⟨by decide +kernel, rfl⟩
theorem d_P_restart_1 : xk_d c_P_restart 1 (.istore_n 1) 1 2 := ⟨by decide +kernel, rfl⟩
theorem d_P_restart_2 : xk_d c_P_restart 2 (.iload_n 1) 1 3 := ⟨by decide +kernel, rfl⟩
theorem d_P_restart_3 : xk_d c_P_restart 3 (.aload_n 0) 1 4 := ⟨by decide +kernel, rfl⟩
theorem d_P_restart_4 : xk_d c_P_restart 4 (.getfield 26) 3 7 := ⟨by decide +kernel, rfl⟩
theorem d_P_restart_7 : xk_b c_P_restart 7 (.if_icmp .ge 18) 10 (18) 25 := ⟨by decide +kernel, rfl, by decide⟩
theorem d_P_restart_10 : xk_d c_P_restart 10 (.aload_n 0) 1 11 := ⟨by decide +kernel, rfl⟩
theorem d_P_restart_11 : xk_d c_P_restart 11 (.getfield 11) 3 14 := ⟨by decide +kernel, rfl⟩
theorem d_P_restart_14 : xk_d c_P_restart 14 (.iload_n 1) 1 15 := ⟨by decide +kernel, rfl⟩
theorem d_P_restart_15 : xk_d c_P_restart 15 (.aaload) 1 16 := ⟨by decide +kernel, rfl⟩
theorem d_P_restart_16 : xk_d c_P_restart 16 (.invokevirtual 34) 3 19 := ⟨by decide +kernel, rfl⟩
theorem d_P_restart_19 : xk_d c_P_restart 19 (.iinc 1 1) 3 22 := ⟨by decide +kernel, rfl⟩
theorem d_P_restart_22 : xk_b c_P_restart 22 (.goto (-20)) 25 (-20) 2 := ⟨by decide +kernel, rfl, by decide⟩
theorem d_P_restart_25 : xk_d c_P_restart 25 (.return_) 1 26 := ⟨by decide +kernel, rfl⟩
theorem d_P_has_0 : xk_d c_P_has 0 (.iload_n 1) 1 1 := ⟨by decide +kernel, rfl⟩
theorem d_P_has_1 : xk_b c_P_has 1 (.ifCond .lt 15) 4 (15) 16 := ⟨by decide +kernel, rfl, by decide⟩
theorem d_P_has_4 : xk_d c_P_has 4 (.iload_n 1) 1 5 := ⟨by decide +kernel, rfl⟩
theorem d_P_has_5 : xk_d c_P_has 5 (.aload_n 0) 1 6 := ⟨by decide +kernel, rfl⟩
theorem d_P_has_6 : xk_d c_P_has 6 (.getfield 26) 3 9 := ⟨by decide +kernel, rfl⟩
theorem d_P_has_9 : xk_b c_P_has 9 (.if_icmp .ge 7) 12 (7) 16 := ⟨by decide +kernel, rfl, by decide⟩
theorem d_P_has_12 : xk_d c_P_has 12 (.iconst 1) 1 13 := ⟨by decide +kernel, rfl⟩
theorem d_P_has_13 : xk_b c_P_has 13 (.goto 4) 16 (4) 17 := ⟨by decide +kernel, rfl, by decide⟩
theorem d_P_has_16 : xk_d c_P_has 16 (.iconst 0) 1 17 := ⟨by decide +kernel, rfl⟩
theorem d_P_has_17 : xk_d c_P_has 17 (.ireturn) 1 18 := ⟨by decide +kernel, rfl⟩
theorem d_P_hasLiving_0 : xk_d c_P_hasLiving 0 (.iconst 0) 1 1 := ⟨by decide +kernel, rfl⟩
theorem d_P_hasLiving_1 : xk_d c_P_hasLiving 1 (.istore_n 2) 1 2 := ⟨by decide +kernel, rfl⟩
theorem d_P_hasLiving_2 : xk_d c_P_hasLiving 2 (.iload_n 2) 1 3 := ⟨by decide +kernel, rfl⟩
theorem d_P_hasLiving_3 : xk_d c_P_hasLiving 3 (.aload_n 0) 1 4 := ⟨by decide +kernel, rfl⟩
theorem d_P_hasLiving_4 : xk_d c_P_hasLiving 4 (.getfield 26) 3 7 := ⟨by decide +kernel, rfl⟩
theorem d_P_hasLiving_7 : xk_b c_P_hasLiving 7 (.if_icmp .ge 36) 10 (36) 43 := ⟨by decide +kernel, rfl, by decide⟩
theorem d_P_hasLiving_10 : xk_d c_P_hasLiving 10 (.aload_n 0) 1 11 := ⟨by decide +kernel, rfl⟩
theorem d_P_hasLiving_11 : xk_d c_P_hasLiving 11 (.getfield 11) 3 14 := ⟨by decide +kernel, rfl⟩
theorem d_P_hasLiving_14 : xk_d c_P_hasLiving 14 (.iload_n 2) 1 15 := ⟨by decide +kernel, rfl⟩
theorem d_P_hasLiving_15 : xk_d c_P_hasLiving 15 (.aaload) 1 16 := ⟨by decide +kernel, rfl⟩
theorem d_P_hasLiving_16 : xk_d c_P_hasLiving 16 (.getfield 37) 3 19 := ⟨by decide +kernel, rfl⟩
theorem d_P_hasLiving_19 : xk_d c_P_hasLiving 19 (.iload_n 1) 1 20 := ⟨by decide +kernel, rfl⟩
theorem d_P_hasLiving_20 : xk_b c_P_hasLiving 20 (.if_icmp .ne 17) 23 (17) 37 := ⟨by decide +kernel, rfl, by decide⟩
theorem d_P_hasLiving_23 : xk_d c_P_hasLiving 23 (.aload_n 0) 1 24 := ⟨by decide +kernel, rfl⟩
theorem d_P_hasLiving_24 : xk_d c_P_hasLiving 24 (.getfield 11) 3 27 := ⟨by decide +kernel, rfl⟩
theorem d_P_hasLiving_27 : xk_d c_P_hasLiving 27 (.iload_n 2) 1 28 := ⟨by decide +kernel, rfl⟩
theorem d_P_hasLiving_28 : xk_d c_P_hasLiving 28 (.aaload) 1 29 := ⟨by decide +kernel, rfl⟩
theorem d_P_hasLiving_29 : xk_d c_P_hasLiving 29 (.invokevirtual 40) 3 32 := ⟨by decide +kernel, rfl⟩
theorem d_P_hasLiving_32 : xk_b c_P_hasLiving 32 (.ifCond .ne 5) 35 (5) 37 := ⟨by decide +kernel, rfl, by decide⟩
theorem d_P_hasLiving_35 : xk_d c_P_hasLiving 35 (.iconst 1) 1 36 := ⟨by decide +kernel, rfl⟩
theorem d_P_hasLiving_36 : xk_d c_P_hasLiving 36 (.ireturn) 1 37 := ⟨by decide +kernel, rfl⟩
theorem d_P_hasLiving_37 : xk_d c_P_hasLiving 37 (.iinc 2 1) 3 40 := ⟨by decide +kernel, rfl⟩
theorem d_P_hasLiving_40 : xk_b c_P_hasLiving 40 (.goto (-38)) 43 (-38) 2 := ⟨by decide +kernel, rfl, by decide⟩
theorem d_P_hasLiving_43 : xk_d c_P_hasLiving 43 (.iconst 0) 1 44 := ⟨by decide +kernel, rfl⟩
theorem d_P_hasLiving_44 : xk_d c_P_hasLiving 44 (.ireturn) 1 45 := ⟨by decide +kernel, rfl⟩
theorem d_P_isTaken_0 : xk_d c_P_isTaken 0 (.aload_n 0) 1 1 := ⟨by decide +kernel, rfl⟩
theorem d_P_isTaken_1 : xk_d c_P_isTaken 1 (.invokevirtual 44) 3 4 := ⟨by decide +kernel, rfl⟩
theorem d_P_isTaken_4 : xk_d c_P_isTaken 4 (.iload_n 1) 1 5 := ⟨by decide +kernel, rfl⟩
theorem d_P_isTaken_5 : xk_d c_P_isTaken 5 (.invokestatic 48) 3 8 := ⟨by decide +kernel, rfl⟩
theorem d_P_isTaken_8 : xk_d c_P_isTaken 8 (.land) 1 9 := ⟨by decide +kernel, rfl⟩
theorem d_P_isTaken_9 : xk_d c_P_isTaken 9 (.lconst 0) 1 10 := ⟨by decide +kernel, rfl⟩
theorem d_P_isTaken_10 : xk_d c_P_isTaken 10 (.lcmp) 1 11 := ⟨by decide +kernel, rfl⟩
theorem d_P_isTaken_11 : xk_b c_P_isTaken 11 (.ifCond .eq 7) 14 (7) 18 := ⟨by decide +kernel, rfl, by decide⟩
theorem d_P_isTaken_14 : xk_d c_P_isTaken 14 (.iconst 1) 1 15 := ⟨by decide +kernel, rfl⟩
theorem d_P_isTaken_15 : xk_b c_P_isTaken 15 (.goto 4) 18 (4) 19 := ⟨by decide +kernel, rfl, by decide⟩
theorem d_P_isTaken_18 : xk_d c_P_isTaken 18 (.iconst 0) 1 19 := ⟨by decide +kernel, rfl⟩
theorem d_P_isTaken_19 : xk_d c_P_isTaken 19 (.ireturn) 1 20 := ⟨by decide +kernel, rfl⟩
theorem d_P_playTick_0 : xk_d c_P_playTick 0 (.aload_n 0) 1 1 := ⟨by decide +kernel, rfl⟩
theorem d_P_playTick_1 : xk_d c_P_playTick 1 (.iload_n 1) 1 2 := ⟨by decide +kernel, rfl⟩
theorem d_P_playTick_2 : xk_d c_P_playTick 2 (.aload_n 2) 1 3 := ⟨by decide +kernel, rfl⟩
theorem d_P_playTick_3 : xk_d c_P_playTick 3 (.invokevirtual 54) 3 6 := ⟨by decide +kernel, rfl⟩
theorem d_P_playTick_6 : xk_d c_P_playTick 6 (.iconst 0) 1 7 := ⟨by decide +kernel, rfl⟩
theorem d_P_playTick_7 : xk_d c_P_playTick 7 (.istore_n 3) 1 8 := ⟨by decide +kernel, rfl⟩
theorem d_P_playTick_8 : xk_d c_P_playTick 8 (.iload_n 3) 1 9 := ⟨by decide +kernel, rfl⟩
theorem d_P_playTick_9 : xk_d c_P_playTick 9 (.aload_n 0) 1 10 := ⟨by decide +kernel, rfl⟩
theorem d_P_playTick_10 : xk_d c_P_playTick 10 (.getfield 26) 3 13 := ⟨by decide +kernel, rfl⟩
theorem d_P_playTick_13 : xk_b c_P_playTick 13 (.if_icmp .ge 31) 16 (31) 44 := ⟨by decide +kernel, rfl, by decide⟩
theorem d_P_playTick_16 : xk_d c_P_playTick 16 (.aload_n 0) 1 17 := ⟨by decide +kernel, rfl⟩
theorem d_P_playTick_17 : xk_d c_P_playTick 17 (.getfield 11) 3 20 := ⟨by decide +kernel, rfl⟩
theorem d_P_playTick_20 : xk_d c_P_playTick 20 (.iload_n 3) 1 21 := ⟨by decide +kernel, rfl⟩
theorem d_P_playTick_21 : xk_d c_P_playTick 21 (.aaload) 1 22 := ⟨by decide +kernel, rfl⟩
theorem d_P_playTick_22 : xk_d c_P_playTick 22 (.getfield 58) 3 25 := ⟨by decide +kernel, rfl⟩
theorem d_P_playTick_25 : xk_b c_P_playTick 25 (.ifCond .eq 13) 28 (13) 38 := ⟨by decide +kernel, rfl, by decide⟩
theorem d_P_playTick_28 : xk_d c_P_playTick 28 (.aload_n 0) 1 29 := ⟨by decide +kernel, rfl⟩
theorem d_P_playTick_29 : xk_d c_P_playTick 29 (.aload_n 0) 1 30 := ⟨by decide +kernel, rfl⟩
theorem d_P_playTick_30 : xk_d c_P_playTick 30 (.getfield 11) 3 33 := ⟨by decide +kernel, rfl⟩
theorem d_P_playTick_33 : xk_d c_P_playTick 33 (.iload_n 3) 1 34 := ⟨by decide +kernel, rfl⟩
theorem d_P_playTick_34 : xk_d c_P_playTick 34 (.aaload) 1 35 := ⟨by decide +kernel, rfl⟩
theorem d_P_playTick_35 : xk_d c_P_playTick 35 (.invokevirtual 61) 3 38 := ⟨by decide +kernel, rfl⟩
theorem d_P_playTick_38 : xk_d c_P_playTick 38 (.iinc 3 1) 3 41 := ⟨by decide +kernel, rfl⟩
theorem d_P_playTick_41 : xk_b c_P_playTick 41 (.goto (-33)) 44 (-33) 8 := ⟨by decide +kernel, rfl, by decide⟩
theorem d_P_playTick_44 : xk_d c_P_playTick 44 (.aload_n 0) 1 45 := ⟨by decide +kernel, rfl⟩
theorem d_P_playTick_45 : xk_d c_P_playTick 45 (.invokevirtual 65) 3 48 := ⟨by decide +kernel, rfl⟩
theorem d_P_playTick_48 : xk_d c_P_playTick 48 (.iload_n 1) 1 49 := ⟨by decide +kernel, rfl⟩
theorem d_P_playTick_49 : xk_d c_P_playTick 49 (.iconst 4) 1 50 := ⟨by decide +kernel, rfl⟩
theorem d_P_playTick_50 : xk_d c_P_playTick 50 (.irem) 1 51 := ⟨by decide +kernel, rfl⟩
theorem d_P_playTick_51 : xk_d c_P_playTick 51 (.iconst 3) 1 52 := ⟨by decide +kernel, rfl⟩
theorem d_P_playTick_52 : xk_b c_P_playTick 52 (.if_icmp .ne 7) 55 (7) 59 := ⟨by decide +kernel, rfl, by decide⟩
theorem d_P_playTick_55 : xk_d c_P_playTick 55 (.aload_n 0) 1 56 := ⟨by decide +kernel, rfl⟩
theorem d_P_playTick_56 : xk_d c_P_playTick 56 (.invokevirtual 68) 3 59 := ⟨by decide +kernel, rfl⟩
theorem d_P_playTick_59 : xk_d c_P_playTick 59 (.aload_n 0) 1 60 := ⟨by decide +kernel, rfl⟩
theorem d_P_playTick_60 : xk_d c_P_playTick 60 (.invokevirtual 71) 3 63 := ⟨by decide +kernel, rfl⟩
theorem d_P_playTick_63 : xk_d c_P_playTick 63 (.ireturn) 1 64 := ⟨by decide +kernel, rfl⟩
theorem d_P_takenTiles_0 : xk_d c_P_takenTiles 0 (.lconst 0) 1 1 := ⟨by decide +kernel, rfl⟩
theorem d_P_takenTiles_1 : xk_d c_P_takenTiles 1 (.lstore_n 1) 1 2 := ⟨by decide +kernel, rfl⟩
theorem d_P_takenTiles_2 : xk_d c_P_takenTiles 2 (.iconst 0) 1 3 := ⟨by decide +kernel, rfl⟩
theorem d_P_takenTiles_3 : xk_d c_P_takenTiles 3 (.istore_n 3) 1 4 := ⟨by decide +kernel, rfl⟩
theorem d_P_takenTiles_4 : xk_d c_P_takenTiles 4 (.iload_n 3) 1 5 := ⟨by decide +kernel, rfl⟩
theorem d_P_takenTiles_5 : xk_d c_P_takenTiles 5 (.aload_n 0) 1 6 := ⟨by decide +kernel, rfl⟩
theorem d_P_takenTiles_6 : xk_d c_P_takenTiles 6 (.getfield 26) 3 9 := ⟨by decide +kernel, rfl⟩
theorem d_P_takenTiles_9 : xk_b c_P_takenTiles 9 (.if_icmp .ge 36) 12 (36) 45 := ⟨by decide +kernel, rfl, by decide⟩
theorem d_P_takenTiles_12 : xk_d c_P_takenTiles 12 (.aload_n 0) 1 13 := ⟨by decide +kernel, rfl⟩
theorem d_P_takenTiles_13 : xk_d c_P_takenTiles 13 (.getfield 11) 3 16 := ⟨by decide +kernel, rfl⟩
theorem d_P_takenTiles_16 : xk_d c_P_takenTiles 16 (.iload_n 3) 1 17 := ⟨by decide +kernel, rfl⟩
theorem d_P_takenTiles_17 : xk_d c_P_takenTiles 17 (.aaload) 1 18 := ⟨by decide +kernel, rfl⟩
theorem d_P_takenTiles_18 : xk_d c_P_takenTiles 18 (.invokevirtual 40) 3 21 := ⟨by decide +kernel, rfl⟩
theorem d_P_takenTiles_21 : xk_b c_P_takenTiles 21 (.ifCond .ne 18) 24 (18) 39 := ⟨by decide +kernel, rfl, by decide⟩
theorem d_P_takenTiles_24 : xk_d c_P_takenTiles 24 (.lload_n 1) 1 25 := ⟨by decide +kernel, rfl⟩
theorem d_P_takenTiles_25 : xk_d c_P_takenTiles 25 (.aload_n 0) 1 26 := ⟨by decide +kernel, rfl⟩
theorem d_P_takenTiles_26 : xk_d c_P_takenTiles 26 (.getfield 11) 3 29 := ⟨by decide +kernel, rfl⟩
theorem d_P_takenTiles_29 : xk_d c_P_takenTiles 29 (.iload_n 3) 1 30 := ⟨by decide +kernel, rfl⟩
theorem d_P_takenTiles_30 : xk_d c_P_takenTiles 30 (.aaload) 1 31 := ⟨by decide +kernel, rfl⟩
theorem d_P_takenTiles_31 : xk_d c_P_takenTiles 31 (.getfield 75) 3 34 := ⟨by decide +kernel, rfl⟩
theorem d_P_takenTiles_34 : xk_d c_P_takenTiles 34 (.invokestatic 48) 3 37 := ⟨by decide +kernel, rfl⟩
theorem d_P_takenTiles_37 : xk_d c_P_takenTiles 37 (.lor) 1 38 := ⟨by decide +kernel, rfl⟩
theorem d_P_takenTiles_38 : xk_d c_P_takenTiles 38 (.lstore_n 1) 1 39 := ⟨by decide +kernel, rfl⟩
theorem d_P_takenTiles_39 : xk_d c_P_takenTiles 39 (.iinc 3 1) 3 42 := ⟨by decide +kernel, rfl⟩
theorem d_P_takenTiles_42 : xk_b c_P_takenTiles 42 (.goto (-38)) 45 (-38) 4 := ⟨by decide +kernel, rfl, by decide⟩
theorem d_P_takenTiles_45 : xk_d c_P_takenTiles 45 (.lload_n 1) 1 46 := ⟨by decide +kernel, rfl⟩
theorem d_P_takenTiles_46 : xk_d c_P_takenTiles 46 (.lreturn) 1 47 := ⟨by decide +kernel, rfl⟩
theorem d_P_giveOrders_0 : xk_d c_P_giveOrders 0 (.iconst 0) 1 1 := ⟨by decide +kernel, rfl⟩
theorem d_P_giveOrders_1 : xk_d c_P_giveOrders 1 (.istore_n 3) 1 2 := ⟨by decide +kernel, rfl⟩
theorem d_P_giveOrders_2 : xk_d c_P_giveOrders 2 (.iload_n 3) 1 3 := ⟨by decide +kernel, rfl⟩
theorem d_P_giveOrders_3 : xk_d c_P_giveOrders 3 (.aload_n 2) 1 4 := ⟨by decide +kernel, rfl⟩
theorem d_P_giveOrders_4 : xk_d c_P_giveOrders 4 (.getfield 78) 3 7 := ⟨by decide +kernel, rfl⟩
theorem d_P_giveOrders_7 : xk_b c_P_giveOrders 7 (.if_icmp .ge 57) 10 (57) 64 := ⟨by decide +kernel, rfl, by decide⟩
theorem d_P_giveOrders_10 : xk_d c_P_giveOrders 10 (.aload_n 0) 1 11 := ⟨by decide +kernel, rfl⟩
theorem d_P_giveOrders_11 : xk_d c_P_giveOrders 11 (.getfield 11) 3 14 := ⟨by decide +kernel, rfl⟩
theorem d_P_giveOrders_14 : xk_d c_P_giveOrders 14 (.aload_n 2) 1 15 := ⟨by decide +kernel, rfl⟩
theorem d_P_giveOrders_15 : xk_d c_P_giveOrders 15 (.getfield 81) 3 18 := ⟨by decide +kernel, rfl⟩
theorem d_P_giveOrders_18 : xk_d c_P_giveOrders 18 (.iload_n 3) 1 19 := ⟨by decide +kernel, rfl⟩
theorem d_P_giveOrders_19 : xk_d c_P_giveOrders 19 (.iaload) 1 20 := ⟨by decide +kernel, rfl⟩
theorem d_P_giveOrders_20 : xk_d c_P_giveOrders 20 (.aaload) 1 21 := ⟨by decide +kernel, rfl⟩
theorem d_P_giveOrders_21 : xk_d c_P_giveOrders 21 (.astore 4) 2 23 := ⟨by decide +kernel, rfl⟩
theorem d_P_giveOrders_23 : xk_d c_P_giveOrders 23 (.aload_n 2) 1 24 := ⟨by decide +kernel, rfl⟩
theorem d_P_giveOrders_24 : xk_d c_P_giveOrders 24 (.getfield 83) 3 27 := ⟨by decide +kernel, rfl⟩
theorem d_P_giveOrders_27 : xk_d c_P_giveOrders 27 (.iload_n 3) 1 28 := ⟨by decide +kernel, rfl⟩
theorem d_P_giveOrders_28 : xk_d c_P_giveOrders 28 (.iaload) 1 29 := ⟨by decide +kernel, rfl⟩
theorem d_P_giveOrders_29 : xk_d c_P_giveOrders 29 (.iload_n 1) 1 30 := ⟨by decide +kernel, rfl⟩
theorem d_P_giveOrders_30 : xk_b c_P_giveOrders 30 (.if_icmp .ne 28) 33 (28) 58 := ⟨by decide +kernel, rfl, by decide⟩
theorem d_P_giveOrders_33 : xk_d c_P_giveOrders 33 (.aload 4) 2 35 := ⟨by decide +kernel, rfl⟩
theorem d_P_giveOrders_35 : xk_d c_P_giveOrders 35 (.invokevirtual 40) 3 38 := ⟨by decide +kernel, rfl⟩
theorem d_P_giveOrders_38 : xk_b c_P_giveOrders 38 (.ifCond .ne 20) 41 (20) 58 := ⟨by decide +kernel, rfl, by decide⟩
theorem d_P_giveOrders_41 : xk_d c_P_giveOrders 41 (.aload 4) 2 43 := ⟨by decide +kernel, rfl⟩
theorem d_P_giveOrders_43 : xk_d c_P_giveOrders 43 (.aload_n 2) 1 44 := ⟨by decide +kernel, rfl⟩
theorem d_P_giveOrders_44 : xk_d c_P_giveOrders 44 (.getfield 86) 3 47 := ⟨by decide +kernel, rfl⟩
theorem d_P_giveOrders_47 : xk_d c_P_giveOrders 47 (.iload_n 3) 1 48 := ⟨by decide +kernel, rfl⟩
theorem d_P_giveOrders_48 : xk_d c_P_giveOrders 48 (.iaload) 1 49 := ⟨by decide +kernel, rfl⟩
theorem d_P_giveOrders_49 : xk_d c_P_giveOrders 49 (.aload_n 2) 1 50 := ⟨by decide +kernel, rfl⟩
theorem d_P_giveOrders_50 : xk_d c_P_giveOrders 50 (.getfield 89) 3 53 := ⟨by decide +kernel, rfl⟩
theorem d_P_giveOrders_53 : xk_d c_P_giveOrders 53 (.iload_n 3) 1 54 := ⟨by decide +kernel, rfl⟩
theorem d_P_giveOrders_54 : xk_d c_P_giveOrders 54 (.iaload) 1 55 := ⟨by decide +kernel, rfl⟩
theorem d_P_giveOrders_55 : xk_d c_P_giveOrders 55 (.invokevirtual 92) 3 58 := ⟨by decide +kernel, rfl⟩
theorem d_P_giveOrders_58 : xk_d c_P_giveOrders 58 (.iinc 3 1) 3 61 := ⟨by decide +kernel, rfl⟩
theorem d_P_giveOrders_61 : xk_b c_P_giveOrders 61 (.goto (-59)) 64 (-59) 2 := ⟨by decide +kernel, rfl, by decide⟩
theorem d_P_giveOrders_64 : xk_d c_P_giveOrders 64 (.return_) 1 65 := ⟨by decide +kernel, rfl⟩
theorem d_P_follow_0 : xk_d c_P_follow 0 (.aload_n 0) 1 1 := ⟨by decide +kernel, rfl⟩
theorem d_P_follow_1 : xk_d c_P_follow 1 (.aload_n 1) 1 2 := ⟨by decide +kernel, rfl⟩
theorem d_P_follow_2 : xk_d c_P_follow 2 (.invokevirtual 95) 3 5 := ⟨by decide +kernel, rfl⟩
theorem d_P_follow_5 : xk_d c_P_follow 5 (.istore_n 2) 1 6 := ⟨by decide +kernel, rfl⟩
theorem d_P_follow_6 : xk_d c_P_follow 6 (.iload_n 2) 1 7 := ⟨by decide +kernel, rfl⟩
theorem d_P_follow_7 : xk_d c_P_follow 7 (.iconst (-1)) 1 8 := ⟨by decide +kernel, rfl⟩
theorem d_P_follow_8 : xk_b c_P_follow 8 (.if_icmp .ne 10) 11 (10) 18 := ⟨by decide +kernel, rfl, by decide⟩
theorem d_P_follow_11 : xk_d c_P_follow 11 (.aload_n 1) 1 12 := ⟨by decide +kernel, rfl⟩
theorem d_P_follow_12 : xk_d c_P_follow 12 (.invokevirtual 99) 3 15 := ⟨by decide +kernel, rfl⟩
theorem d_P_follow_15 : xk_b c_P_follow 15 (.goto 36) 18 (36) 51 := ⟨by decide +kernel, rfl, by decide⟩
theorem d_P_follow_18 : xk_d c_P_follow 18 (.aload_n 1) 1 19 := ⟨by decide +kernel, rfl⟩
theorem d_P_follow_19 : xk_d c_P_follow 19 (.getfield 58) 3 22 := ⟨by decide +kernel, rfl⟩
theorem d_P_follow_22 : xk_d c_P_follow 22 (.iconst 2) 1 23 := ⟨by decide +kernel, rfl⟩
theorem d_P_follow_23 : xk_b c_P_follow 23 (.if_icmp .ne 22) 26 (22) 45 := ⟨by decide +kernel, rfl, by decide⟩
theorem d_P_follow_26 : xk_d c_P_follow 26 (.aload_n 1) 1 27 := ⟨by decide +kernel, rfl⟩
theorem d_P_follow_27 : xk_d c_P_follow 27 (.getfield 75) 3 30 := ⟨by decide +kernel, rfl⟩
theorem d_P_follow_30 : xk_d c_P_follow 30 (.iload_n 2) 1 31 := ⟨by decide +kernel, rfl⟩
theorem d_P_follow_31 : xk_d c_P_follow 31 (.invokestatic 102) 3 34 := ⟨by decide +kernel, rfl⟩
theorem d_P_follow_34 : xk_d c_P_follow 34 (.iconst 1) 1 35 := ⟨by decide +kernel, rfl⟩
theorem d_P_follow_35 : xk_b c_P_follow 35 (.if_icmp .ne 10) 38 (10) 45 := ⟨by decide +kernel, rfl, by decide⟩
theorem d_P_follow_38 : xk_d c_P_follow 38 (.aload_n 1) 1 39 := ⟨by decide +kernel, rfl⟩
theorem d_P_follow_39 : xk_d c_P_follow 39 (.invokevirtual 106) 3 42 := ⟨by decide +kernel, rfl⟩
theorem d_P_follow_42 : xk_b c_P_follow 42 (.goto 9) 45 (9) 51 := ⟨by decide +kernel, rfl, by decide⟩
theorem d_P_follow_45 : xk_d c_P_follow 45 (.aload_n 0) 1 46 := ⟨by decide +kernel, rfl⟩
theorem d_P_follow_46 : xk_d c_P_follow 46 (.aload_n 1) 1 47 := ⟨by decide +kernel, rfl⟩
theorem d_P_follow_47 : xk_d c_P_follow 47 (.iload_n 2) 1 48 := ⟨by decide +kernel, rfl⟩
theorem d_P_follow_48 : xk_d c_P_follow 48 (.invokevirtual 109) 3 51 := ⟨by decide +kernel, rfl⟩
theorem d_P_follow_51 : xk_d c_P_follow 51 (.return_) 1 52 := ⟨by decide +kernel, rfl⟩
theorem d_P_goalOf_0 : xk_d c_P_goalOf 0 (.aload_n 1) 1 1 := ⟨by decide +kernel, rfl⟩
theorem d_P_goalOf_1 : xk_d c_P_goalOf 1 (.getfield 58) 3 4 := ⟨by decide +kernel, rfl⟩
theorem d_P_goalOf_4 : xk_d c_P_goalOf 4 (.iconst 2) 1 5 := ⟨by decide +kernel, rfl⟩
theorem d_P_goalOf_5 : xk_b c_P_goalOf 5 (.if_icmp .ne 16) 8 (16) 21 := ⟨by decide +kernel, rfl, by decide⟩
theorem d_P_goalOf_8 : xk_d c_P_goalOf 8 (.aload_n 0) 1 9 := ⟨by decide +kernel, rfl⟩
theorem d_P_goalOf_9 : xk_d c_P_goalOf 9 (.getfield 11) 3 12 := ⟨by decide +kernel, rfl⟩
theorem d_P_goalOf_12 : xk_d c_P_goalOf 12 (.aload_n 1) 1 13 := ⟨by decide +kernel, rfl⟩
theorem d_P_goalOf_13 : xk_d c_P_goalOf 13 (.getfield 113) 3 16 := ⟨by decide +kernel, rfl⟩
theorem d_P_goalOf_16 : xk_d c_P_goalOf 16 (.aaload) 1 17 := ⟨by decide +kernel, rfl⟩
theorem d_P_goalOf_17 : xk_d c_P_goalOf 17 (.getfield 75) 3 20 := ⟨by decide +kernel, rfl⟩
theorem d_P_goalOf_20 : xk_d c_P_goalOf 20 (.ireturn) 1 21 := ⟨by decide +kernel, rfl⟩
theorem d_P_goalOf_21 : xk_d c_P_goalOf 21 (.aload_n 1) 1 22 := ⟨by decide +kernel, rfl⟩
theorem d_P_goalOf_22 : xk_d c_P_goalOf 22 (.getfield 113) 3 25 := ⟨by decide +kernel, rfl⟩
theorem d_P_goalOf_25 : xk_d c_P_goalOf 25 (.aload_n 1) 1 26 := ⟨by decide +kernel, rfl⟩
theorem d_P_goalOf_26 : xk_d c_P_goalOf 26 (.getfield 75) 3 29 := ⟨by decide +kernel, rfl⟩
theorem d_P_goalOf_29 : xk_b c_P_goalOf 29 (.if_icmp .eq 17) 32 (17) 46 := ⟨by decide +kernel, rfl, by decide⟩
theorem d_P_goalOf_32 : xk_d c_P_goalOf 32 (.aload_n 0) 1 33 := ⟨by decide +kernel, rfl⟩
theorem d_P_goalOf_33 : xk_d c_P_goalOf 33 (.getfield 21) 3 36 := ⟨by decide +kernel, rfl⟩
theorem d_P_goalOf_36 : xk_d c_P_goalOf 36 (.aload_n 1) 1 37 := ⟨by decide +kernel, rfl⟩
theorem d_P_goalOf_37 : xk_d c_P_goalOf 37 (.getfield 113) 3 40 := ⟨by decide +kernel, rfl⟩
theorem d_P_goalOf_40 : xk_d c_P_goalOf 40 (.invokevirtual 116) 3 43 := ⟨by decide +kernel, rfl⟩
theorem d_P_goalOf_43 : xk_b c_P_goalOf 43 (.ifCond .eq 7) 46 (7) 50 := ⟨by decide +kernel, rfl, by decide⟩
theorem d_P_goalOf_46 : xk_d c_P_goalOf 46 (.iconst (-1)) 1 47 := ⟨by decide +kernel, rfl⟩
theorem d_P_goalOf_47 : xk_b c_P_goalOf 47 (.goto 7) 50 (7) 54 := ⟨by decide +kernel, rfl, by decide⟩
theorem d_P_goalOf_50 : xk_d c_P_goalOf 50 (.aload_n 1) 1 51 := ⟨by decide +kernel, rfl⟩
theorem d_P_goalOf_51 : xk_d c_P_goalOf 51 (.getfield 113) 3 54 := ⟨by decide +kernel, rfl⟩
theorem d_P_goalOf_54 : xk_d c_P_goalOf 54 (.ireturn) 1 55 := ⟨by decide +kernel, rfl⟩
theorem d_P_walk_0 : xk_d c_P_walk 0 (.aload_n 1) 1 1 := ⟨by decide +kernel, rfl⟩
theorem d_P_walk_1 : xk_d c_P_walk 1 (.iload_n 2) 1 2 := ⟨by decide +kernel, rfl⟩
theorem d_P_walk_2 : xk_d c_P_walk 2 (.invokevirtual 120) 3 5 := ⟨by decide +kernel, rfl⟩
theorem d_P_walk_5 : xk_b c_P_walk 5 (.ifCond .ne 14) 8 (14) 19 := ⟨by decide +kernel, rfl, by decide⟩
theorem d_P_walk_8 : xk_d c_P_walk 8 (.aload_n 1) 1 9 := ⟨by decide +kernel, rfl⟩
theorem d_P_walk_9 : xk_d c_P_walk 9 (.invokevirtual 106) 3 12 := ⟨by decide +kernel, rfl⟩
theorem d_P_walk_12 : xk_d c_P_walk 12 (.aload_n 0) 1 13 := ⟨by decide +kernel, rfl⟩
theorem d_P_walk_13 : xk_d c_P_walk 13 (.aload_n 1) 1 14 := ⟨by decide +kernel, rfl⟩
theorem d_P_walk_14 : xk_d c_P_walk 14 (.iload_n 2) 1 15 := ⟨by decide +kernel, rfl⟩
theorem d_P_walk_15 : xk_d c_P_walk 15 (.lconst 0) 1 16 := ⟨by decide +kernel, rfl⟩
theorem d_P_walk_16 : xk_d c_P_walk 16 (.invokevirtual 123) 3 19 := ⟨by decide +kernel, rfl⟩
theorem d_P_walk_19 : xk_d c_P_walk 19 (.aload_n 1) 1 20 := ⟨by decide +kernel, rfl⟩
theorem d_P_walk_20 : xk_d c_P_walk 20 (.invokevirtual 127) 3 23 := ⟨by decide +kernel, rfl⟩
theorem d_P_walk_23 : xk_b c_P_walk 23 (.ifCond .ne 10) 26 (10) 33 := ⟨by decide +kernel, rfl, by decide⟩
theorem d_P_walk_26 : xk_d c_P_walk 26 (.aload_n 1) 1 27 := ⟨by decide +kernel, rfl⟩
theorem d_P_walk_27 : xk_d c_P_walk 27 (.invokevirtual 99) 3 30 := ⟨by decide +kernel, rfl⟩
theorem d_P_walk_30 : xk_b c_P_walk 30 (.goto 39) 33 (39) 69 := ⟨by decide +kernel, rfl, by decide⟩
theorem d_P_walk_33 : xk_d c_P_walk 33 (.aload_n 0) 1 34 := ⟨by decide +kernel, rfl⟩
theorem d_P_walk_34 : xk_d c_P_walk 34 (.aload_n 1) 1 35 := ⟨by decide +kernel, rfl⟩
theorem d_P_walk_35 : xk_d c_P_walk 35 (.iconst 0) 1 36 := ⟨by decide +kernel, rfl⟩
theorem d_P_walk_36 : xk_d c_P_walk 36 (.invokevirtual 130) 3 39 := ⟨by decide +kernel, rfl⟩
theorem d_P_walk_39 : xk_d c_P_walk 39 (.invokevirtual 134) 3 42 := ⟨by decide +kernel, rfl⟩
theorem d_P_walk_42 : xk_b c_P_walk 42 (.ifCond .ne 10) 45 (10) 52 := ⟨by decide +kernel, rfl, by decide⟩
theorem d_P_walk_45 : xk_d c_P_walk 45 (.aload_n 1) 1 46 := ⟨by decide +kernel, rfl⟩
theorem d_P_walk_46 : xk_d c_P_walk 46 (.invokevirtual 137) 3 49 := ⟨by decide +kernel, rfl⟩
theorem d_P_walk_49 : xk_b c_P_walk 49 (.goto 20) 52 (20) 69 := ⟨by decide +kernel, rfl, by decide⟩
theorem d_P_walk_52 : xk_d c_P_walk 52 (.aload_n 1) 1 53 := ⟨by decide +kernel, rfl⟩
theorem d_P_walk_53 : xk_d c_P_walk 53 (.invokevirtual 140) 3 56 := ⟨by decide +kernel, rfl⟩
theorem d_P_walk_56 : xk_b c_P_walk 56 (.ifCond .eq 13) 59 (13) 69 := ⟨by decide +kernel, rfl, by decide⟩
theorem d_P_walk_59 : xk_d c_P_walk 59 (.aload_n 0) 1 60 := ⟨by decide +kernel, rfl⟩
theorem d_P_walk_60 : xk_d c_P_walk 60 (.aload_n 1) 1 61 := ⟨by decide +kernel, rfl⟩
theorem d_P_walk_61 : xk_d c_P_walk 61 (.iload_n 2) 1 62 := ⟨by decide +kernel, rfl⟩
theorem d_P_walk_62 : xk_d c_P_walk 62 (.aload_n 0) 1 63 := ⟨by decide +kernel, rfl⟩
theorem d_P_walk_63 : xk_d c_P_walk 63 (.invokevirtual 44) 3 66 := ⟨by decide +kernel, rfl⟩
theorem d_P_walk_66 : xk_d c_P_walk 66 (.invokevirtual 123) 3 69 := ⟨by decide +kernel, rfl⟩
theorem d_P_walk_69 : xk_d c_P_walk 69 (.return_) 1 70 := ⟨by decide +kernel, rfl⟩
theorem d_P_findPath_0 : xk_d c_P_findPath 0 (.aload_n 0) 1 1 := ⟨by decide +kernel, rfl⟩
theorem d_P_findPath_1 : xk_d c_P_findPath 1 (.getfield 21) 3 4 := ⟨by decide +kernel, rfl⟩
theorem d_P_findPath_4 : xk_d c_P_findPath 4 (.aload_n 1) 1 5 := ⟨by decide +kernel, rfl⟩
theorem d_P_findPath_5 : xk_d c_P_findPath 5 (.getfield 75) 3 8 := ⟨by decide +kernel, rfl⟩
theorem d_P_findPath_8 : xk_d c_P_findPath 8 (.iload_n 2) 1 9 := ⟨by decide +kernel, rfl⟩
theorem d_P_findPath_9 : xk_d c_P_findPath 9 (.lload_n 3) 1 10 := ⟨by decide +kernel, rfl⟩
theorem d_P_findPath_10 : xk_d c_P_findPath 10 (.invokevirtual 143) 3 13 := ⟨by decide +kernel, rfl⟩
theorem d_P_findPath_13 : xk_d c_P_findPath 13 (.istore 5) 2 15 := ⟨by decide +kernel, rfl⟩
theorem d_P_findPath_15 : xk_d c_P_findPath 15 (.iload 5) 2 17 := ⟨by decide +kernel, rfl⟩
theorem d_P_findPath_17 : xk_b c_P_findPath 17 (.ifCond .le 26) 20 (26) 43 := ⟨by decide +kernel, rfl, by decide⟩
theorem d_P_findPath_20 : xk_d c_P_findPath 20 (.aload_n 0) 1 21 := ⟨by decide +kernel, rfl⟩
theorem d_P_findPath_21 : xk_d c_P_findPath 21 (.getfield 21) 3 24 := ⟨by decide +kernel, rfl⟩
theorem d_P_findPath_24 : xk_d c_P_findPath 24 (.iload_n 2) 1 25 := ⟨by decide +kernel, rfl⟩
theorem d_P_findPath_25 : xk_d c_P_findPath 25 (.aload_n 1) 1 26 := ⟨by decide +kernel, rfl⟩
theorem d_P_findPath_26 : xk_d c_P_findPath 26 (.getfield 147) 3 29 := ⟨by decide +kernel, rfl⟩
theorem d_P_findPath_29 : xk_d c_P_findPath 29 (.invokevirtual 150) 3 32 := ⟨by decide +kernel, rfl⟩
theorem d_P_findPath_32 : xk_d c_P_findPath 32 (.aload_n 1) 1 33 := ⟨by decide +kernel, rfl⟩
theorem d_P_findPath_33 : xk_d c_P_findPath 33 (.iconst 0) 1 34 := ⟨by decide +kernel, rfl⟩
theorem d_P_findPath_34 : xk_d c_P_findPath 34 (.putfield 154) 3 37 := ⟨by decide +kernel, rfl⟩
theorem d_P_findPath_37 : xk_d c_P_findPath 37 (.aload_n 1) 1 38 := ⟨by decide +kernel, rfl⟩
theorem d_P_findPath_38 : xk_d c_P_findPath 38 (.iload 5) 2 40 := ⟨by decide +kernel, rfl⟩
theorem d_P_findPath_40 : xk_d c_P_findPath 40 (.putfield 157) 3 43 := ⟨by decide +kernel, rfl⟩
theorem d_P_findPath_43 : xk_d c_P_findPath 43 (.return_) 1 44 := ⟨by decide +kernel, rfl⟩
theorem d_P_exchangeBlows_0 : xk_d c_P_exchangeBlows 0 (.aload_n 0) 1 1 := ⟨by decide +kernel, rfl⟩
theorem d_P_exchangeBlows_1 : xk_d c_P_exchangeBlows 1 (.getfield 17) 3 4 := ⟨by decide +kernel, rfl⟩
theorem d_P_exchangeBlows_4 : xk_d c_P_exchangeBlows 4 (.iconst 0) 1 5 := ⟨by decide +kernel, rfl⟩
theorem d_P_exchangeBlows_5 : xk_d c_P_exchangeBlows 5 (.invokestatic 160) 3 8 := ⟨by decide +kernel, rfl⟩
theorem d_P_exchangeBlows_8 : xk_d c_P_exchangeBlows 8 (.iconst 0) 1 9 := ⟨by decide +kernel, rfl⟩
theorem d_P_exchangeBlows_9 : xk_d c_P_exchangeBlows 9 (.istore_n 1) 1 10 := ⟨by decide +kernel, rfl⟩
theorem d_P_exchangeBlows_10 : xk_d c_P_exchangeBlows 10 (.iload_n 1) 1 11 := ⟨by decide +kernel, rfl⟩
theorem d_P_exchangeBlows_11 : xk_d c_P_exchangeBlows 11 (.aload_n 0) 1 12 := ⟨by decide +kernel, rfl⟩
theorem d_P_exchangeBlows_12 : xk_d c_P_exchangeBlows 12 (.getfield 26) 3 15 := ⟨by decide +kernel, rfl⟩
theorem d_P_exchangeBlows_15 : xk_b c_P_exchangeBlows 15 (.if_icmp .ge 66) 18 (66) 81 := ⟨by decide +kernel, rfl, by decide⟩
theorem d_P_exchangeBlows_18 : xk_d c_P_exchangeBlows 18 (.aload_n 0) 1 19 := ⟨by decide +kernel, rfl⟩
theorem d_P_exchangeBlows_19 : xk_d c_P_exchangeBlows 19 (.getfield 11) 3 22 := ⟨by decide +kernel, rfl⟩
theorem d_P_exchangeBlows_22 : xk_d c_P_exchangeBlows 22 (.iload_n 1) 1 23 := ⟨by decide +kernel, rfl⟩
theorem d_P_exchangeBlows_23 : xk_d c_P_exchangeBlows 23 (.aaload) 1 24 := ⟨by decide +kernel, rfl⟩
theorem d_P_exchangeBlows_24 : xk_d c_P_exchangeBlows 24 (.getfield 58) 3 27 := ⟨by decide +kernel, rfl⟩
theorem d_P_exchangeBlows_27 : xk_d c_P_exchangeBlows 27 (.iconst 2) 1 28 := ⟨by decide +kernel, rfl⟩
theorem d_P_exchangeBlows_28 : xk_b c_P_exchangeBlows 28 (.if_icmp .ne 47) 31 (47) 75 := ⟨by decide +kernel, rfl, by decide⟩
theorem d_P_exchangeBlows_31 : xk_d c_P_exchangeBlows 31 (.aload_n 0) 1 32 := ⟨by decide +kernel, rfl⟩
theorem d_P_exchangeBlows_32 : xk_d c_P_exchangeBlows 32 (.getfield 11) 3 35 := ⟨by decide +kernel, rfl⟩
theorem d_P_exchangeBlows_35 : xk_d c_P_exchangeBlows 35 (.iload_n 1) 1 36 := ⟨by decide +kernel, rfl⟩
theorem d_P_exchangeBlows_36 : xk_d c_P_exchangeBlows 36 (.aaload) 1 37 := ⟨by decide +kernel, rfl⟩
theorem d_P_exchangeBlows_37 : xk_d c_P_exchangeBlows 37 (.aload_n 0) 1 38 := ⟨by decide +kernel, rfl⟩
theorem d_P_exchangeBlows_38 : xk_d c_P_exchangeBlows 38 (.getfield 11) 3 41 := ⟨by decide +kernel, rfl⟩
theorem d_P_exchangeBlows_41 : xk_d c_P_exchangeBlows 41 (.aload_n 0) 1 42 := ⟨by decide +kernel, rfl⟩
theorem d_P_exchangeBlows_42 : xk_d c_P_exchangeBlows 42 (.getfield 11) 3 45 := ⟨by decide +kernel, rfl⟩
theorem d_P_exchangeBlows_45 : xk_d c_P_exchangeBlows 45 (.iload_n 1) 1 46 := ⟨by decide +kernel, rfl⟩
theorem d_P_exchangeBlows_46 : xk_d c_P_exchangeBlows 46 (.aaload) 1 47 := ⟨by decide +kernel, rfl⟩
theorem d_P_exchangeBlows_47 : xk_d c_P_exchangeBlows 47 (.getfield 113) 3 50 := ⟨by decide +kernel, rfl⟩
theorem d_P_exchangeBlows_50 : xk_d c_P_exchangeBlows 50 (.aaload) 1 51 := ⟨by decide +kernel, rfl⟩
theorem d_P_exchangeBlows_51 : xk_d c_P_exchangeBlows 51 (.invokestatic 166) 3 54 := ⟨by decide +kernel, rfl⟩
theorem d_P_exchangeBlows_54 : xk_b c_P_exchangeBlows 54 (.ifCond .eq 21) 57 (21) 75 := ⟨by decide +kernel, rfl, by decide⟩
theorem d_P_exchangeBlows_57 : xk_d c_P_exchangeBlows 57 (.aload_n 0) 1 58 := ⟨by decide +kernel, rfl⟩
theorem d_P_exchangeBlows_58 : xk_d c_P_exchangeBlows 58 (.getfield 17) 3 61 := ⟨by decide +kernel, rfl⟩
theorem d_P_exchangeBlows_61 : xk_d c_P_exchangeBlows 61 (.aload_n 0) 1 62 := ⟨by decide +kernel, rfl⟩
theorem d_P_exchangeBlows_62 : xk_d c_P_exchangeBlows 62 (.getfield 11) 3 65 := ⟨by decide +kernel, rfl⟩
theorem d_P_exchangeBlows_65 : xk_d c_P_exchangeBlows 65 (.iload_n 1) 1 66 := ⟨by decide +kernel, rfl⟩
theorem d_P_exchangeBlows_66 : xk_d c_P_exchangeBlows 66 (.aaload) 1 67 := ⟨by decide +kernel, rfl⟩
theorem d_P_exchangeBlows_67 : xk_d c_P_exchangeBlows 67 (.getfield 113) 3 70 := ⟨by decide +kernel, rfl⟩
theorem d_P_exchangeBlows_70 : xk_d c_P_exchangeBlows 70 (.dup2) 1 71 := ⟨by decide +kernel, rfl⟩
theorem d_P_exchangeBlows_71 : xk_d c_P_exchangeBlows 71 (.iaload) 1 72 := ⟨by decide +kernel, rfl⟩
theorem d_P_exchangeBlows_72 : xk_d c_P_exchangeBlows 72 (.iconst 3) 1 73 := ⟨by decide +kernel, rfl⟩
theorem d_P_exchangeBlows_73 : xk_d c_P_exchangeBlows 73 (.iadd) 1 74 := ⟨by decide +kernel, rfl⟩
theorem d_P_exchangeBlows_74 : xk_d c_P_exchangeBlows 74 (.iastore) 1 75 := ⟨by decide +kernel, rfl⟩
theorem d_P_exchangeBlows_75 : xk_d c_P_exchangeBlows 75 (.iinc 1 1) 3 78 := ⟨by decide +kernel, rfl⟩
theorem d_P_exchangeBlows_78 : xk_b c_P_exchangeBlows 78 (.goto (-68)) 81 (-68) 10 := ⟨by decide +kernel, rfl, by decide⟩
theorem d_P_exchangeBlows_81 : xk_d c_P_exchangeBlows 81 (.iconst 0) 1 82 := ⟨by decide +kernel, rfl⟩
theorem d_P_exchangeBlows_82 : xk_d c_P_exchangeBlows 82 (.istore_n 1) 1 83 := ⟨by decide +kernel, rfl⟩
theorem d_P_exchangeBlows_83 : xk_d c_P_exchangeBlows 83 (.iload_n 1) 1 84 := ⟨by decide +kernel, rfl⟩
theorem d_P_exchangeBlows_84 : xk_d c_P_exchangeBlows 84 (.aload_n 0) 1 85 := ⟨by decide +kernel, rfl⟩
theorem d_P_exchangeBlows_85 : xk_d c_P_exchangeBlows 85 (.getfield 26) 3 88 := ⟨by decide +kernel, rfl⟩
theorem d_P_exchangeBlows_88 : xk_b c_P_exchangeBlows 88 (.if_icmp .ge 24) 91 (24) 112 := ⟨by decide +kernel, rfl, by decide⟩
theorem d_P_exchangeBlows_91 : xk_d c_P_exchangeBlows 91 (.aload_n 0) 1 92 := ⟨by decide +kernel, rfl⟩
theorem d_P_exchangeBlows_92 : xk_d c_P_exchangeBlows 92 (.getfield 11) 3 95 := ⟨by decide +kernel, rfl⟩
theorem d_P_exchangeBlows_95 : xk_d c_P_exchangeBlows 95 (.iload_n 1) 1 96 := ⟨by decide +kernel, rfl⟩
theorem d_P_exchangeBlows_96 : xk_d c_P_exchangeBlows 96 (.aaload) 1 97 := ⟨by decide +kernel, rfl⟩
theorem d_P_exchangeBlows_97 : xk_d c_P_exchangeBlows 97 (.aload_n 0) 1 98 := ⟨by decide +kernel, rfl⟩
theorem d_P_exchangeBlows_98 : xk_d c_P_exchangeBlows 98 (.getfield 17) 3 101 := ⟨by decide +kernel, rfl⟩
theorem d_P_exchangeBlows_101 : xk_d c_P_exchangeBlows 101 (.iload_n 1) 1 102 := ⟨by decide +kernel, rfl⟩
theorem d_P_exchangeBlows_102 : xk_d c_P_exchangeBlows 102 (.iaload) 1 103 := ⟨by decide +kernel, rfl⟩
theorem d_P_exchangeBlows_103 : xk_d c_P_exchangeBlows 103 (.invokevirtual 170) 3 106 := ⟨by decide +kernel, rfl⟩
theorem d_P_exchangeBlows_106 : xk_d c_P_exchangeBlows 106 (.iinc 1 1) 3 109 := ⟨by decide +kernel, rfl⟩
theorem d_P_exchangeBlows_109 : xk_b c_P_exchangeBlows 109 (.goto (-26)) 112 (-26) 83 := ⟨by decide +kernel, rfl, by decide⟩
theorem d_P_exchangeBlows_112 : xk_d c_P_exchangeBlows 112 (.return_) 1 113 := ⟨by decide +kernel, rfl⟩
theorem d_P_reaches_0 : xk_d c_P_reaches 0 (.aload_n 1) 1 1 := ⟨by decide +kernel, rfl⟩
theorem d_P_reaches_1 : xk_d c_P_reaches 1 (.invokevirtual 40) 3 4 := ⟨by decide +kernel, rfl⟩
theorem d_P_reaches_4 : xk_b c_P_reaches 4 (.ifCond .ne 22) 7 (22) 26 := ⟨by decide +kernel, rfl, by decide⟩
theorem d_P_reaches_7 : xk_d c_P_reaches 7 (.aload_n 0) 1 8 := ⟨by decide +kernel, rfl⟩
theorem d_P_reaches_8 : xk_d c_P_reaches 8 (.getfield 75) 3 11 := ⟨by decide +kernel, rfl⟩
theorem d_P_reaches_11 : xk_d c_P_reaches 11 (.aload_n 1) 1 12 := ⟨by decide +kernel, rfl⟩
theorem d_P_reaches_12 : xk_d c_P_reaches 12 (.getfield 75) 3 15 := ⟨by decide +kernel, rfl⟩
theorem d_P_reaches_15 : xk_d c_P_reaches 15 (.invokestatic 102) 3 18 := ⟨by decide +kernel, rfl⟩
theorem d_P_reaches_18 : xk_d c_P_reaches 18 (.iconst 1) 1 19 := ⟨by decide +kernel, rfl⟩
theorem d_P_reaches_19 : xk_b c_P_reaches 19 (.if_icmp .ne 7) 22 (7) 26 := ⟨by decide +kernel, rfl, by decide⟩
theorem d_P_reaches_22 : xk_d c_P_reaches 22 (.iconst 1) 1 23 := ⟨by decide +kernel, rfl⟩
theorem d_P_reaches_23 : xk_b c_P_reaches 23 (.goto 4) 26 (4) 27 := ⟨by decide +kernel, rfl, by decide⟩
theorem d_P_reaches_26 : xk_d c_P_reaches 26 (.iconst 0) 1 27 := ⟨by decide +kernel, rfl⟩
theorem d_P_reaches_27 : xk_d c_P_reaches 27 (.ireturn) 1 28 := ⟨by decide +kernel, rfl⟩
theorem d_P_restAll_0 : xk_d c_P_restAll 0 (.iconst 0) 1 1 := ⟨by decide +kernel, rfl⟩
theorem d_P_restAll_1 : xk_d c_P_restAll 1 (.istore_n 1) 1 2 := ⟨by decide +kernel, rfl⟩
theorem d_P_restAll_2 : xk_d c_P_restAll 2 (.iload_n 1) 1 3 := ⟨by decide +kernel, rfl⟩
theorem d_P_restAll_3 : xk_d c_P_restAll 3 (.aload_n 0) 1 4 := ⟨by decide +kernel, rfl⟩
theorem d_P_restAll_4 : xk_d c_P_restAll 4 (.getfield 26) 3 7 := ⟨by decide +kernel, rfl⟩
theorem d_P_restAll_7 : xk_b c_P_restAll 7 (.if_icmp .ge 18) 10 (18) 25 := ⟨by decide +kernel, rfl, by decide⟩
theorem d_P_restAll_10 : xk_d c_P_restAll 10 (.aload_n 0) 1 11 := ⟨by decide +kernel, rfl⟩
theorem d_P_restAll_11 : xk_d c_P_restAll 11 (.getfield 11) 3 14 := ⟨by decide +kernel, rfl⟩
theorem d_P_restAll_14 : xk_d c_P_restAll 14 (.iload_n 1) 1 15 := ⟨by decide +kernel, rfl⟩
theorem d_P_restAll_15 : xk_d c_P_restAll 15 (.aaload) 1 16 := ⟨by decide +kernel, rfl⟩
theorem d_P_restAll_16 : xk_d c_P_restAll 16 (.invokevirtual 174) 3 19 := ⟨by decide +kernel, rfl⟩
theorem d_P_restAll_19 : xk_d c_P_restAll 19 (.iinc 1 1) 3 22 := ⟨by decide +kernel, rfl⟩
theorem d_P_restAll_22 : xk_b c_P_restAll 22 (.goto (-20)) 25 (-20) 2 := ⟨by decide +kernel, rfl, by decide⟩
theorem d_P_restAll_25 : xk_d c_P_restAll 25 (.return_) 1 26 := ⟨by decide +kernel, rfl⟩
theorem d_P_sum_0 : xk_d c_P_sum 0 (.bipush 17) 2 2 := ⟨by decide +kernel, rfl⟩
theorem d_P_sum_2 : xk_d c_P_sum 2 (.istore_n 1) 1 3 := ⟨by decide +kernel, rfl⟩
theorem d_P_sum_3 : xk_d c_P_sum 3 (.iconst 0) 1 4 := ⟨by decide +kernel, rfl⟩
theorem d_P_sum_4 : xk_d c_P_sum 4 (.istore_n 2) 1 5 := ⟨by decide +kernel, rfl⟩
theorem d_P_sum_5 : xk_d c_P_sum 5 (.iload_n 2) 1 6 := ⟨by decide +kernel, rfl⟩
theorem d_P_sum_6 : xk_d c_P_sum 6 (.aload_n 0) 1 7 := ⟨by decide +kernel, rfl⟩
theorem d_P_sum_7 : xk_d c_P_sum 7 (.getfield 26) 3 10 := ⟨by decide +kernel, rfl⟩
theorem d_P_sum_10 : xk_b c_P_sum 10 (.if_icmp .ge 63) 13 (63) 73 := ⟨by decide +kernel, rfl, by decide⟩
theorem d_P_sum_13 : xk_d c_P_sum 13 (.aload_n 0) 1 14 := ⟨by decide +kernel, rfl⟩
theorem d_P_sum_14 : xk_d c_P_sum 14 (.getfield 11) 3 17 := ⟨by decide +kernel, rfl⟩
theorem d_P_sum_17 : xk_d c_P_sum 17 (.iload_n 2) 1 18 := ⟨by decide +kernel, rfl⟩
theorem d_P_sum_18 : xk_d c_P_sum 18 (.aaload) 1 19 := ⟨by decide +kernel, rfl⟩
theorem d_P_sum_19 : xk_d c_P_sum 19 (.astore_n 3) 1 20 := ⟨by decide +kernel, rfl⟩
theorem d_P_sum_20 : xk_d c_P_sum 20 (.bipush 31) 2 22 := ⟨by decide +kernel, rfl⟩
theorem d_P_sum_22 : xk_d c_P_sum 22 (.iload_n 1) 1 23 := ⟨by decide +kernel, rfl⟩
theorem d_P_sum_23 : xk_d c_P_sum 23 (.imul) 1 24 := ⟨by decide +kernel, rfl⟩
theorem d_P_sum_24 : xk_d c_P_sum 24 (.bipush 64) 2 26 := ⟨by decide +kernel, rfl⟩
theorem d_P_sum_26 : xk_d c_P_sum 26 (.aload_n 3) 1 27 := ⟨by decide +kernel, rfl⟩
theorem d_P_sum_27 : xk_d c_P_sum 27 (.getfield 177) 3 30 := ⟨by decide +kernel, rfl⟩
theorem d_P_sum_30 : xk_d c_P_sum 30 (.imul) 1 31 := ⟨by decide +kernel, rfl⟩
theorem d_P_sum_31 : xk_d c_P_sum 31 (.iadd) 1 32 := ⟨by decide +kernel, rfl⟩
theorem d_P_sum_32 : xk_d c_P_sum 32 (.aload_n 3) 1 33 := ⟨by decide +kernel, rfl⟩
theorem d_P_sum_33 : xk_d c_P_sum 33 (.invokevirtual 40) 3 36 := ⟨by decide +kernel, rfl⟩
theorem d_P_sum_36 : xk_b c_P_sum 36 (.ifCond .eq 7) 39 (7) 43 := ⟨by decide +kernel, rfl, by decide⟩
theorem d_P_sum_39 : xk_d c_P_sum 39 (.iconst 0) 1 40 := ⟨by decide +kernel, rfl⟩
theorem d_P_sum_40 : xk_b c_P_sum 40 (.goto 7) 43 (7) 47 := ⟨by decide +kernel, rfl, by decide⟩
theorem d_P_sum_43 : xk_d c_P_sum 43 (.aload_n 3) 1 44 := ⟨by decide +kernel, rfl⟩
theorem d_P_sum_44 : xk_d c_P_sum 44 (.getfield 75) 3 47 := ⟨by decide +kernel, rfl⟩
theorem d_P_sum_47 : xk_d c_P_sum 47 (.iadd) 1 48 := ⟨by decide +kernel, rfl⟩
theorem d_P_sum_48 : xk_d c_P_sum 48 (.istore_n 1) 1 49 := ⟨by decide +kernel, rfl⟩
theorem d_P_sum_49 : xk_d c_P_sum 49 (.bipush 31) 2 51 := ⟨by decide +kernel, rfl⟩
theorem d_P_sum_51 : xk_d c_P_sum 51 (.iload_n 1) 1 52 := ⟨by decide +kernel, rfl⟩
theorem d_P_sum_52 : xk_d c_P_sum 52 (.imul) 1 53 := ⟨by decide +kernel, rfl⟩
theorem d_P_sum_53 : xk_d c_P_sum 53 (.bipush 8) 2 55 := ⟨by decide +kernel, rfl⟩
theorem d_P_sum_55 : xk_d c_P_sum 55 (.aload_n 3) 1 56 := ⟨by decide +kernel, rfl⟩
theorem d_P_sum_56 : xk_d c_P_sum 56 (.getfield 180) 3 59 := ⟨by decide +kernel, rfl⟩
theorem d_P_sum_59 : xk_d c_P_sum 59 (.imul) 1 60 := ⟨by decide +kernel, rfl⟩
theorem d_P_sum_60 : xk_d c_P_sum 60 (.iadd) 1 61 := ⟨by decide +kernel, rfl⟩
theorem d_P_sum_61 : xk_d c_P_sum 61 (.aload_n 3) 1 62 := ⟨by decide +kernel, rfl⟩
theorem d_P_sum_62 : xk_d c_P_sum 62 (.getfield 58) 3 65 := ⟨by decide +kernel, rfl⟩
theorem d_P_sum_65 : xk_d c_P_sum 65 (.iadd) 1 66 := ⟨by decide +kernel, rfl⟩
theorem d_P_sum_66 : xk_d c_P_sum 66 (.istore_n 1) 1 67 := ⟨by decide +kernel, rfl⟩
theorem d_P_sum_67 : xk_d c_P_sum 67 (.iinc 2 1) 3 70 := ⟨by decide +kernel, rfl⟩
theorem d_P_sum_70 : xk_b c_P_sum 70 (.goto (-65)) 73 (-65) 5 := ⟨by decide +kernel, rfl, by decide⟩
theorem d_P_sum_73 : xk_d c_P_sum 73 (.iload_n 1) 1 74 := ⟨by decide +kernel, rfl⟩
theorem d_P_sum_74 : xk_d c_P_sum 74 (.ireturn) 1 75 := ⟨by decide +kernel, rfl⟩
end
section
/-! decode rows -/
theorem d_F_init_0 : xk_d c_F_init 0 (.aload_n 0) 1 1 := ⟨by decide +kernel, rfl⟩
theorem d_F_init_1 : xk_d c_F_init 1 (.invokespecial 1) 3 4 := ⟨by decide +kernel, rfl⟩
theorem d_F_init_4 : xk_d c_F_init 4 (.aload_n 0) 1 5 := ⟨by decide +kernel, rfl⟩
theorem d_F_init_5 : xk_d c_F_init 5 (.new 7) 3 8 := ⟨by decide +kernel, rfl⟩
theorem d_F_init_8 : xk_d c_F_init 8 (.dup) 1 9 := ⟨by decide +kernel, rfl⟩
theorem d_F_init_9 : xk_d c_F_init 9 (.invokespecial 9) 3 12 := ⟨by decide +kernel, rfl⟩
theorem d_F_init_12 : xk_d c_F_init 12 (.putfield 10) 3 15 := ⟨by decide +kernel, rfl⟩
theorem d_F_init_15 : xk_d c_F_init 15 (.aload_n 0) 1 16 := ⟨by decide +kernel, rfl⟩
theorem d_F_init_16 : xk_d c_F_init 16 (.new 16) 3 19 := ⟨by decide +kernel, rfl⟩
theorem d_F_init_19 : xk_d c_F_init 19 (.dup) 1 20 := ⟨by decide +kernel, rfl⟩
theorem d_F_init_20 : xk_d c_F_init 20 (.invokespecial 18) 3 23 := ⟨by decide +kernel, rfl⟩
theorem d_F_init_23 : xk_d c_F_init 23 (.putfield 19) 3 26 := ⟨by decide +kernel, rfl⟩
theorem d_F_init_26 : xk_d c_F_init 26 (.aload_n 0) 1 27 := ⟨by decide +kernel, rfl⟩
theorem d_F_init_27 : xk_d c_F_init 27 (.new 23) 3 30 := ⟨by decide +kernel, rfl⟩
theorem d_F_init_30 : xk_d c_F_init 30 (.dup) 1 31 := ⟨by decide +kernel, rfl⟩
theorem d_F_init_31 : xk_d c_F_init 31 (.aload_n 0) 1 32 := ⟨by decide +kernel, rfl⟩
theorem d_F_init_32 : xk_d c_F_init 32 (.getfield 10) 3 35 := ⟨by decide +kernel, rfl⟩
theorem d_F_init_35 : xk_d c_F_init 35 (.invokespecial 25) 3 38 := ⟨by decide +kernel, rfl⟩
theorem d_F_init_38 : xk_d c_F_init 38 (.putfield 28) 3 41 := ⟨by decide +kernel, rfl⟩
theorem d_F_init_41 : xk_d c_F_init 41 (.aload_n 0) 1 42 := ⟨by decide +kernel, rfl⟩
theorem d_F_init_42 : xk_d c_F_init 42 (.new 23) 3 45 := ⟨by decide +kernel, rfl⟩
theorem d_F_init_45 : xk_d c_F_init 45 (.dup) 1 46 := ⟨by decide +kernel, rfl⟩
theorem d_F_init_46 : xk_d c_F_init 46 (.aload_n 0) 1 47 := ⟨by decide +kernel, rfl⟩
theorem d_F_init_47 : xk_d c_F_init 47 (.getfield 10) 3 50 := ⟨by decide +kernel, rfl⟩
theorem d_F_init_50 : xk_d c_F_init 50 (.invokespecial 25) 3 53 := ⟨by decide +kernel, rfl⟩
theorem d_F_init_53 : xk_d c_F_init 53 (.putfield 32) 3 56 := ⟨by decide +kernel, rfl⟩
theorem d_F_init_56 : xk_d c_F_init 56 (.aload_n 0) 1 57 := ⟨by decide +kernel, rfl⟩
theorem d_F_init_57 : xk_d c_F_init 57 (.sipush 200) 3 60 := ⟨by decide +kernel, rfl⟩
theorem d_F_init_60 : xk_d c_F_init 60 (.newarray .int) 2 62 := ⟨by decide +kernel, rfl⟩
theorem d_F_init_62 : xk_d c_F_init 62 (.putfield 35) 3 65 := ⟨by decide +kernel, rfl⟩
theorem d_F_init_65 : xk_d c_F_init 65 (.return_) 1 66 := ⟨by decide +kernel, rfl⟩
theorem d_F_wall_0 : xk_d c_F_wall 0 (.aload_n 0) 1 1 := ⟨by decide +kernel, rfl⟩
theorem d_F_wall_1 : xk_d c_F_wall 1 (.getfield 39) 3 4 := ⟨by decide +kernel, rfl⟩
theorem d_F_wall_4 : xk_b c_F_wall 4 (.ifCond .ne 21) 7 (21) 25 := ⟨by decide +kernel, rfl, by decide⟩
theorem d_F_wall_7 : xk_d c_F_wall 7 (.iload_n 1) 1 8 := ⟨by decide +kernel, rfl⟩
theorem d_F_wall_8 : xk_d c_F_wall 8 (.invokestatic 43) 3 11 := ⟨by decide +kernel, rfl⟩
theorem d_F_wall_11 : xk_b c_F_wall 11 (.ifCond .eq 14) 14 (14) 25 := ⟨by decide +kernel, rfl, by decide⟩
theorem d_F_wall_14 : xk_d c_F_wall 14 (.aload_n 0) 1 15 := ⟨by decide +kernel, rfl⟩
theorem d_F_wall_15 : xk_d c_F_wall 15 (.getfield 28) 3 18 := ⟨by decide +kernel, rfl⟩
theorem d_F_wall_18 : xk_d c_F_wall 18 (.iload_n 1) 1 19 := ⟨by decide +kernel, rfl⟩
theorem d_F_wall_19 : xk_d c_F_wall 19 (.invokevirtual 47) 3 22 := ⟨by decide +kernel, rfl⟩
theorem d_F_wall_22 : xk_b c_F_wall 22 (.ifCond .eq 5) 25 (5) 27 := ⟨by decide +kernel, rfl, by decide⟩
theorem d_F_wall_25 : xk_d c_F_wall 25 (.iconst 0) 1 26 := ⟨by decide +kernel, rfl⟩
theorem d_F_wall_26 : xk_d c_F_wall 26 (.ireturn) 1 27 := ⟨by decide +kernel, rfl⟩
theorem d_F_wall_27 : xk_d c_F_wall 27 (.aload_n 0) 1 28 := ⟨by decide +kernel, rfl⟩
theorem d_F_wall_28 : xk_d c_F_wall 28 (.getfield 10) 3 31 := ⟨by decide +kernel, rfl⟩
theorem d_F_wall_31 : xk_d c_F_wall 31 (.iload_n 1) 1 32 := ⟨by decide +kernel, rfl⟩
theorem d_F_wall_32 : xk_d c_F_wall 32 (.iload_n 2) 1 33 := ⟨by decide +kernel, rfl⟩
theorem d_F_wall_33 : xk_d c_F_wall 33 (.invokevirtual 50) 3 36 := ⟨by decide +kernel, rfl⟩
theorem d_F_wall_36 : xk_d c_F_wall 36 (.iconst 1) 1 37 := ⟨by decide +kernel, rfl⟩
theorem d_F_wall_37 : xk_d c_F_wall 37 (.ireturn) 1 38 := ⟨by decide +kernel, rfl⟩
theorem d_F_unit_0 : xk_d c_F_unit 0 (.aload_n 0) 1 1 := ⟨by decide +kernel, rfl⟩
theorem d_F_unit_1 : xk_d c_F_unit 1 (.getfield 39) 3 4 := ⟨by decide +kernel, rfl⟩
theorem d_F_unit_4 : xk_b c_F_unit 4 (.ifCond .eq 6) 7 (6) 10 := ⟨by decide +kernel, rfl, by decide⟩
theorem d_F_unit_7 : xk_d c_F_unit 7 (.bipush (-3)) 2 9 := ⟨by decide +kernel, rfl⟩
theorem d_F_unit_9 : xk_d c_F_unit 9 (.ireturn) 1 10 := ⟨by decide +kernel, rfl⟩
theorem d_F_unit_10 : xk_d c_F_unit 10 (.iload_n 1) 1 11 := ⟨by decide +kernel, rfl⟩
theorem d_F_unit_11 : xk_b c_F_unit 11 (.ifCond .lt 37) 14 (37) 48 := ⟨by decide +kernel, rfl, by decide⟩
theorem d_F_unit_14 : xk_d c_F_unit 14 (.iload_n 1) 1 15 := ⟨by decide +kernel, rfl⟩
theorem d_F_unit_15 : xk_d c_F_unit 15 (.iconst 2) 1 16 := ⟨by decide +kernel, rfl⟩
theorem d_F_unit_16 : xk_b c_F_unit 16 (.if_icmp .ge 32) 19 (32) 48 := ⟨by decide +kernel, rfl, by decide⟩
theorem d_F_unit_19 : xk_d c_F_unit 19 (.iload_n 2) 1 20 := ⟨by decide +kernel, rfl⟩
theorem d_F_unit_20 : xk_d c_F_unit 20 (.invokestatic 43) 3 23 := ⟨by decide +kernel, rfl⟩
theorem d_F_unit_23 : xk_b c_F_unit 23 (.ifCond .eq 25) 26 (25) 48 := ⟨by decide +kernel, rfl, by decide⟩
theorem d_F_unit_26 : xk_d c_F_unit 26 (.aload_n 0) 1 27 := ⟨by decide +kernel, rfl⟩
theorem d_F_unit_27 : xk_d c_F_unit 27 (.getfield 10) 3 30 := ⟨by decide +kernel, rfl⟩
theorem d_F_unit_30 : xk_d c_F_unit 30 (.iload_n 2) 1 31 := ⟨by decide +kernel, rfl⟩
theorem d_F_unit_31 : xk_d c_F_unit 31 (.invokevirtual 54) 3 34 := ⟨by decide +kernel, rfl⟩
theorem d_F_unit_34 : xk_b c_F_unit 34 (.ifCond .ne 14) 37 (14) 48 := ⟨by decide +kernel, rfl, by decide⟩
theorem d_F_unit_37 : xk_d c_F_unit 37 (.aload_n 0) 1 38 := ⟨by decide +kernel, rfl⟩
theorem d_F_unit_38 : xk_d c_F_unit 38 (.getfield 28) 3 41 := ⟨by decide +kernel, rfl⟩
theorem d_F_unit_41 : xk_d c_F_unit 41 (.iload_n 2) 1 42 := ⟨by decide +kernel, rfl⟩
theorem d_F_unit_42 : xk_d c_F_unit 42 (.invokevirtual 47) 3 45 := ⟨by decide +kernel, rfl⟩
theorem d_F_unit_45 : xk_b c_F_unit 45 (.ifCond .eq 5) 48 (5) 50 := ⟨by decide +kernel, rfl, by decide⟩
theorem d_F_unit_48 : xk_d c_F_unit 48 (.iconst (-1)) 1 49 := ⟨by decide +kernel, rfl⟩
theorem d_F_unit_49 : xk_d c_F_unit 49 (.ireturn) 1 50 := ⟨by decide +kernel, rfl⟩
theorem d_F_unit_50 : xk_d c_F_unit 50 (.aload_n 0) 1 51 := ⟨by decide +kernel, rfl⟩
theorem d_F_unit_51 : xk_d c_F_unit 51 (.getfield 28) 3 54 := ⟨by decide +kernel, rfl⟩
theorem d_F_unit_54 : xk_d c_F_unit 54 (.getfield 57) 3 57 := ⟨by decide +kernel, rfl⟩
theorem d_F_unit_57 : xk_d c_F_unit 57 (.bipush 8) 2 59 := ⟨by decide +kernel, rfl⟩
theorem d_F_unit_59 : xk_b c_F_unit 59 (.if_icmp .ne 6) 62 (6) 65 := ⟨by decide +kernel, rfl, by decide⟩
theorem d_F_unit_62 : xk_d c_F_unit 62 (.bipush (-2)) 2 64 := ⟨by decide +kernel, rfl⟩
theorem d_F_unit_64 : xk_d c_F_unit 64 (.ireturn) 1 65 := ⟨by decide +kernel, rfl⟩
theorem d_F_unit_65 : xk_d c_F_unit 65 (.aload_n 0) 1 66 := ⟨by decide +kernel, rfl⟩
theorem d_F_unit_66 : xk_d c_F_unit 66 (.getfield 32) 3 69 := ⟨by decide +kernel, rfl⟩
theorem d_F_unit_69 : xk_d c_F_unit 69 (.iload_n 1) 1 70 := ⟨by decide +kernel, rfl⟩
theorem d_F_unit_70 : xk_d c_F_unit 70 (.iload_n 2) 1 71 := ⟨by decide +kernel, rfl⟩
theorem d_F_unit_71 : xk_d c_F_unit 71 (.invokevirtual 61) 3 74 := ⟨by decide +kernel, rfl⟩
theorem d_F_unit_74 : xk_d c_F_unit 74 (.pop) 1 75 := ⟨by decide +kernel, rfl⟩
theorem d_F_unit_75 : xk_d c_F_unit 75 (.aload_n 0) 1 76 := ⟨by decide +kernel, rfl⟩
theorem d_F_unit_76 : xk_d c_F_unit 76 (.getfield 28) 3 79 := ⟨by decide +kernel, rfl⟩
theorem d_F_unit_79 : xk_d c_F_unit 79 (.iload_n 1) 1 80 := ⟨by decide +kernel, rfl⟩
theorem d_F_unit_80 : xk_d c_F_unit 80 (.iload_n 2) 1 81 := ⟨by decide +kernel, rfl⟩
theorem d_F_unit_81 : xk_d c_F_unit 81 (.invokevirtual 61) 3 84 := ⟨by decide +kernel, rfl⟩
theorem d_F_unit_84 : xk_d c_F_unit 84 (.ireturn) 1 85 := ⟨by decide +kernel, rfl⟩
theorem d_F_begin_0 : xk_d c_F_begin 0 (.aload_n 0) 1 1 := ⟨by decide +kernel, rfl⟩
theorem d_F_begin_1 : xk_d c_F_begin 1 (.getfield 39) 3 4 := ⟨by decide +kernel, rfl⟩
theorem d_F_begin_4 : xk_b c_F_begin 4 (.ifCond .eq 6) 7 (6) 10 := ⟨by decide +kernel, rfl, by decide⟩
theorem d_F_begin_7 : xk_d c_F_begin 7 (.bipush (-3)) 2 9 := ⟨by decide +kernel, rfl⟩
theorem d_F_begin_9 : xk_d c_F_begin 9 (.ireturn) 1 10 := ⟨by decide +kernel, rfl⟩
theorem d_F_begin_10 : xk_d c_F_begin 10 (.aload_n 0) 1 11 := ⟨by decide +kernel, rfl⟩
theorem d_F_begin_11 : xk_d c_F_begin 11 (.iconst 1) 1 12 := ⟨by decide +kernel, rfl⟩
theorem d_F_begin_12 : xk_d c_F_begin 12 (.putfield 39) 3 15 := ⟨by decide +kernel, rfl⟩
theorem d_F_begin_15 : xk_d c_F_begin 15 (.aload_n 0) 1 16 := ⟨by decide +kernel, rfl⟩
theorem d_F_begin_16 : xk_d c_F_begin 16 (.getfield 28) 3 19 := ⟨by decide +kernel, rfl⟩
theorem d_F_begin_19 : xk_d c_F_begin 19 (.getfield 57) 3 22 := ⟨by decide +kernel, rfl⟩
theorem d_F_begin_22 : xk_d c_F_begin 22 (.ireturn) 1 23 := ⟨by decide +kernel, rfl⟩
theorem d_F_command_0 : xk_d c_F_command 0 (.aload_n 0) 1 1 := ⟨by decide +kernel, rfl⟩
theorem d_F_command_1 : xk_d c_F_command 1 (.getfield 28) 3 4 := ⟨by decide +kernel, rfl⟩
theorem d_F_command_4 : xk_d c_F_command 4 (.iload_n 2) 1 5 := ⟨by decide +kernel, rfl⟩
theorem d_F_command_5 : xk_d c_F_command 5 (.invokevirtual 65) 3 8 := ⟨by decide +kernel, rfl⟩
theorem d_F_command_8 : xk_b c_F_command 8 (.ifCond .eq 14) 11 (14) 22 := ⟨by decide +kernel, rfl, by decide⟩
theorem d_F_command_11 : xk_d c_F_command 11 (.aload_n 0) 1 12 := ⟨by decide +kernel, rfl⟩
theorem d_F_command_12 : xk_d c_F_command 12 (.iload_n 2) 1 13 := ⟨by decide +kernel, rfl⟩
theorem d_F_command_13 : xk_d c_F_command 13 (.iload_n 3) 1 14 := ⟨by decide +kernel, rfl⟩
theorem d_F_command_14 : xk_d c_F_command 14 (.iload 4) 2 16 := ⟨by decide +kernel, rfl⟩
theorem d_F_command_16 : xk_d c_F_command 16 (.invokevirtual 68) 3 19 := ⟨by decide +kernel, rfl⟩
theorem d_F_command_19 : xk_b c_F_command 19 (.ifCond .ne 5) 22 (5) 24 := ⟨by decide +kernel, rfl, by decide⟩
theorem d_F_command_22 : xk_d c_F_command 22 (.iconst (-1)) 1 23 := ⟨by decide +kernel, rfl⟩
theorem d_F_command_23 : xk_d c_F_command 23 (.ireturn) 1 24 := ⟨by decide +kernel, rfl⟩
theorem d_F_command_24 : xk_d c_F_command 24 (.aload_n 0) 1 25 := ⟨by decide +kernel, rfl⟩
theorem d_F_command_25 : xk_d c_F_command 25 (.getfield 39) 3 28 := ⟨by decide +kernel, rfl⟩
theorem d_F_command_28 : xk_b c_F_command 28 (.ifCond .eq 11) 31 (11) 39 := ⟨by decide +kernel, rfl, by decide⟩
theorem d_F_command_31 : xk_d c_F_command 31 (.iload_n 1) 1 32 := ⟨by decide +kernel, rfl⟩
theorem d_F_command_32 : xk_d c_F_command 32 (.aload_n 0) 1 33 := ⟨by decide +kernel, rfl⟩
theorem d_F_command_33 : xk_d c_F_command 33 (.getfield 72) 3 36 := ⟨by decide +kernel, rfl⟩
theorem d_F_command_36 : xk_b c_F_command 36 (.if_icmp .ge 6) 39 (6) 42 := ⟨by decide +kernel, rfl, by decide⟩
theorem d_F_command_39 : xk_d c_F_command 39 (.bipush (-3)) 2 41 := ⟨by decide +kernel, rfl⟩
theorem d_F_command_41 : xk_d c_F_command 41 (.ireturn) 1 42 := ⟨by decide +kernel, rfl⟩
theorem d_F_command_42 : xk_d c_F_command 42 (.aload_n 0) 1 43 := ⟨by decide +kernel, rfl⟩
theorem d_F_command_43 : xk_d c_F_command 43 (.getfield 19) 3 46 := ⟨by decide +kernel, rfl⟩
theorem d_F_command_46 : xk_d c_F_command 46 (.getfield 75) 3 49 := ⟨by decide +kernel, rfl⟩
theorem d_F_command_49 : xk_d c_F_command 49 (.bipush 24) 2 51 := ⟨by decide +kernel, rfl⟩
theorem d_F_command_51 : xk_b c_F_command 51 (.if_icmp .ne 6) 54 (6) 57 := ⟨by decide +kernel, rfl, by decide⟩
theorem d_F_command_54 : xk_d c_F_command 54 (.bipush (-2)) 2 56 := ⟨by decide +kernel, rfl⟩
theorem d_F_command_56 : xk_d c_F_command 56 (.ireturn) 1 57 := ⟨by decide +kernel, rfl⟩
theorem d_F_command_57 : xk_d c_F_command 57 (.aload_n 0) 1 58 := ⟨by decide +kernel, rfl⟩
theorem d_F_command_58 : xk_d c_F_command 58 (.getfield 19) 3 61 := ⟨by decide +kernel, rfl⟩
theorem d_F_command_61 : xk_d c_F_command 61 (.iload_n 1) 1 62 := ⟨by decide +kernel, rfl⟩
theorem d_F_command_62 : xk_d c_F_command 62 (.iload_n 2) 1 63 := ⟨by decide +kernel, rfl⟩
theorem d_F_command_63 : xk_d c_F_command 63 (.iload_n 3) 1 64 := ⟨by decide +kernel, rfl⟩
theorem d_F_command_64 : xk_d c_F_command 64 (.iload 4) 2 66 := ⟨by decide +kernel, rfl⟩
theorem d_F_command_66 : xk_d c_F_command 66 (.invokevirtual 76) 3 69 := ⟨by decide +kernel, rfl⟩
theorem d_F_command_69 : xk_d c_F_command 69 (.ireturn) 1 70 := ⟨by decide +kernel, rfl⟩
theorem d_F_forget_0 : xk_d c_F_forget 0 (.iload_n 1) 1 1 := ⟨by decide +kernel, rfl⟩
theorem d_F_forget_1 : xk_b c_F_forget 1 (.ifCond .lt 14) 4 (14) 15 := ⟨by decide +kernel, rfl, by decide⟩
theorem d_F_forget_4 : xk_d c_F_forget 4 (.iload_n 1) 1 5 := ⟨by decide +kernel, rfl⟩
theorem d_F_forget_5 : xk_d c_F_forget 5 (.aload_n 0) 1 6 := ⟨by decide +kernel, rfl⟩
theorem d_F_forget_6 : xk_d c_F_forget 6 (.getfield 19) 3 9 := ⟨by decide +kernel, rfl⟩
theorem d_F_forget_9 : xk_d c_F_forget 9 (.getfield 75) 3 12 := ⟨by decide +kernel, rfl⟩
theorem d_F_forget_12 : xk_b c_F_forget 12 (.if_icmp .lt 5) 15 (5) 17 := ⟨by decide +kernel, rfl, by decide⟩
theorem d_F_forget_15 : xk_d c_F_forget 15 (.iconst 0) 1 16 := ⟨by decide +kernel, rfl⟩
theorem d_F_forget_16 : xk_d c_F_forget 16 (.ireturn) 1 17 := ⟨by decide +kernel, rfl⟩
theorem d_F_forget_17 : xk_d c_F_forget 17 (.aload_n 0) 1 18 := ⟨by decide +kernel, rfl⟩
theorem d_F_forget_18 : xk_d c_F_forget 18 (.getfield 19) 3 21 := ⟨by decide +kernel, rfl⟩
theorem d_F_forget_21 : xk_d c_F_forget 21 (.iload_n 1) 1 22 := ⟨by decide +kernel, rfl⟩
theorem d_F_forget_22 : xk_d c_F_forget 22 (.invokevirtual 80) 3 25 := ⟨by decide +kernel, rfl⟩
theorem d_F_forget_25 : xk_d c_F_forget 25 (.iconst 1) 1 26 := ⟨by decide +kernel, rfl⟩
theorem d_F_forget_26 : xk_d c_F_forget 26 (.ireturn) 1 27 := ⟨by decide +kernel, rfl⟩
theorem d_F_run_0 : xk_d c_F_run 0 (.iload_n 1) 1 1 := ⟨by decide +kernel, rfl⟩
theorem d_F_run_1 : xk_d c_F_run 1 (.iconst 1) 1 2 := ⟨by decide +kernel, rfl⟩
theorem d_F_run_2 : xk_b c_F_run 2 (.if_icmp .lt 9) 5 (9) 11 := ⟨by decide +kernel, rfl, by decide⟩
theorem d_F_run_5 : xk_d c_F_run 5 (.iload_n 1) 1 6 := ⟨by decide +kernel, rfl⟩
theorem d_F_run_6 : xk_d c_F_run 6 (.bipush 20) 2 8 := ⟨by decide +kernel, rfl⟩
theorem d_F_run_8 : xk_b c_F_run 8 (.if_icmp .le 5) 11 (5) 13 := ⟨by decide +kernel, rfl, by decide⟩
theorem d_F_run_11 : xk_d c_F_run 11 (.iconst (-1)) 1 12 := ⟨by decide +kernel, rfl⟩
theorem d_F_run_12 : xk_d c_F_run 12 (.ireturn) 1 13 := ⟨by decide +kernel, rfl⟩
theorem d_F_run_13 : xk_d c_F_run 13 (.aload_n 0) 1 14 := ⟨by decide +kernel, rfl⟩
theorem d_F_run_14 : xk_d c_F_run 14 (.getfield 39) 3 17 := ⟨by decide +kernel, rfl⟩
theorem d_F_run_17 : xk_b c_F_run 17 (.ifCond .ne 6) 20 (6) 23 := ⟨by decide +kernel, rfl, by decide⟩
theorem d_F_run_20 : xk_d c_F_run 20 (.bipush (-3)) 2 22 := ⟨by decide +kernel, rfl⟩
theorem d_F_run_22 : xk_d c_F_run 22 (.ireturn) 1 23 := ⟨by decide +kernel, rfl⟩
theorem d_F_run_23 : xk_d c_F_run 23 (.iload_n 1) 1 24 := ⟨by decide +kernel, rfl⟩
theorem d_F_run_24 : xk_d c_F_run 24 (.sipush 200) 3 27 := ⟨by decide +kernel, rfl⟩
theorem d_F_run_27 : xk_d c_F_run 27 (.aload_n 0) 1 28 := ⟨by decide +kernel, rfl⟩
theorem d_F_run_28 : xk_d c_F_run 28 (.getfield 72) 3 31 := ⟨by decide +kernel, rfl⟩
theorem d_F_run_31 : xk_d c_F_run 31 (.isub) 1 32 := ⟨by decide +kernel, rfl⟩
theorem d_F_run_32 : xk_b c_F_run 32 (.if_icmp .le 6) 35 (6) 38 := ⟨by decide +kernel, rfl, by decide⟩
theorem d_F_run_35 : xk_d c_F_run 35 (.bipush (-2)) 2 37 := ⟨by decide +kernel, rfl⟩
theorem d_F_run_37 : xk_d c_F_run 37 (.ireturn) 1 38 := ⟨by decide +kernel, rfl⟩
theorem d_F_run_38 : xk_d c_F_run 38 (.iconst 0) 1 39 := ⟨by decide +kernel, rfl⟩
theorem d_F_run_39 : xk_d c_F_run 39 (.istore_n 2) 1 40 := ⟨by decide +kernel, rfl⟩
theorem d_F_run_40 : xk_d c_F_run 40 (.iload_n 2) 1 41 := ⟨by decide +kernel, rfl⟩
theorem d_F_run_41 : xk_d c_F_run 41 (.iload_n 1) 1 42 := ⟨by decide +kernel, rfl⟩
theorem d_F_run_42 : xk_b c_F_run 42 (.if_icmp .ge 43) 45 (43) 85 := ⟨by decide +kernel, rfl, by decide⟩
theorem d_F_run_45 : xk_d c_F_run 45 (.aload_n 0) 1 46 := ⟨by decide +kernel, rfl⟩
theorem d_F_run_46 : xk_d c_F_run 46 (.getfield 35) 3 49 := ⟨by decide +kernel, rfl⟩
theorem d_F_run_49 : xk_d c_F_run 49 (.aload_n 0) 1 50 := ⟨by decide +kernel, rfl⟩
theorem d_F_run_50 : xk_d c_F_run 50 (.getfield 72) 3 53 := ⟨by decide +kernel, rfl⟩
theorem d_F_run_53 : xk_d c_F_run 53 (.aload_n 0) 1 54 := ⟨by decide +kernel, rfl⟩
theorem d_F_run_54 : xk_d c_F_run 54 (.getfield 28) 3 57 := ⟨by decide +kernel, rfl⟩
theorem d_F_run_57 : xk_d c_F_run 57 (.aload_n 0) 1 58 := ⟨by decide +kernel, rfl⟩
theorem d_F_run_58 : xk_d c_F_run 58 (.getfield 72) 3 61 := ⟨by decide +kernel, rfl⟩
theorem d_F_run_61 : xk_d c_F_run 61 (.aload_n 0) 1 62 := ⟨by decide +kernel, rfl⟩
theorem d_F_run_62 : xk_d c_F_run 62 (.getfield 19) 3 65 := ⟨by decide +kernel, rfl⟩
theorem d_F_run_65 : xk_d c_F_run 65 (.invokevirtual 84) 3 68 := ⟨by decide +kernel, rfl⟩
theorem d_F_run_68 : xk_d c_F_run 68 (.iastore) 1 69 := ⟨by decide +kernel, rfl⟩
theorem d_F_run_69 : xk_d c_F_run 69 (.aload_n 0) 1 70 := ⟨by decide +kernel, rfl⟩
theorem d_F_run_70 : xk_d c_F_run 70 (.dup) 1 71 := ⟨by decide +kernel, rfl⟩
theorem d_F_run_71 : xk_d c_F_run 71 (.getfield 72) 3 74 := ⟨by decide +kernel, rfl⟩
theorem d_F_run_74 : xk_d c_F_run 74 (.iconst 1) 1 75 := ⟨by decide +kernel, rfl⟩
theorem d_F_run_75 : xk_d c_F_run 75 (.iadd) 1 76 := ⟨by decide +kernel, rfl⟩
theorem d_F_run_76 : xk_d c_F_run 76 (.putfield 72) 3 79 := ⟨by decide +kernel, rfl⟩
theorem d_F_run_79 : xk_d c_F_run 79 (.iinc 2 1) 3 82 := ⟨by decide +kernel, rfl⟩
theorem d_F_run_82 : xk_b c_F_run 82 (.goto (-42)) 85 (-42) 40 := ⟨by decide +kernel, rfl, by decide⟩
theorem d_F_run_85 : xk_d c_F_run 85 (.aload_n 0) 1 86 := ⟨by decide +kernel, rfl⟩
theorem d_F_run_86 : xk_d c_F_run 86 (.getfield 72) 3 89 := ⟨by decide +kernel, rfl⟩
theorem d_F_run_89 : xk_d c_F_run 89 (.ireturn) 1 90 := ⟨by decide +kernel, rfl⟩
theorem d_F_replay_0 : xk_d c_F_replay 0 (.aload_n 0) 1 1 := ⟨by decide +kernel, rfl⟩
theorem d_F_replay_1 : xk_d c_F_replay 1 (.getfield 32) 3 4 := ⟨by decide +kernel, rfl⟩
theorem d_F_replay_4 : xk_d c_F_replay 4 (.invokevirtual 88) 3 7 := ⟨by decide +kernel, rfl⟩
theorem d_F_replay_7 : xk_d c_F_replay 7 (.iconst 0) 1 8 := ⟨by decide +kernel, rfl⟩
theorem d_F_replay_8 : xk_d c_F_replay 8 (.istore_n 1) 1 9 := ⟨by decide +kernel, rfl⟩
theorem d_F_replay_9 : xk_d c_F_replay 9 (.iload_n 1) 1 10 := ⟨by decide +kernel, rfl⟩
theorem d_F_replay_10 : xk_d c_F_replay 10 (.aload_n 0) 1 11 := ⟨by decide +kernel, rfl⟩
theorem d_F_replay_11 : xk_d c_F_replay 11 (.getfield 72) 3 14 := ⟨by decide +kernel, rfl⟩
theorem d_F_replay_14 : xk_b c_F_replay 14 (.if_icmp .ge 32) 17 (32) 46 := ⟨by decide +kernel, rfl, by decide⟩
theorem d_F_replay_17 : xk_d c_F_replay 17 (.aload_n 0) 1 18 := ⟨by decide +kernel, rfl⟩
theorem d_F_replay_18 : xk_d c_F_replay 18 (.getfield 32) 3 21 := ⟨by decide +kernel, rfl⟩
theorem d_F_replay_21 : xk_d c_F_replay 21 (.iload_n 1) 1 22 := ⟨by decide +kernel, rfl⟩
theorem d_F_replay_22 : xk_d c_F_replay 22 (.aload_n 0) 1 23 := ⟨by decide +kernel, rfl⟩
theorem d_F_replay_23 : xk_d c_F_replay 23 (.getfield 19) 3 26 := ⟨by decide +kernel, rfl⟩
theorem d_F_replay_26 : xk_d c_F_replay 26 (.invokevirtual 84) 3 29 := ⟨by decide +kernel, rfl⟩
theorem d_F_replay_29 : xk_d c_F_replay 29 (.aload_n 0) 1 30 := ⟨by decide +kernel, rfl⟩
theorem d_F_replay_30 : xk_d c_F_replay 30 (.getfield 35) 3 33 := ⟨by decide +kernel, rfl⟩
theorem d_F_replay_33 : xk_d c_F_replay 33 (.iload_n 1) 1 34 := ⟨by decide +kernel, rfl⟩
theorem d_F_replay_34 : xk_d c_F_replay 34 (.iaload) 1 35 := ⟨by decide +kernel, rfl⟩
theorem d_F_replay_35 : xk_b c_F_replay 35 (.if_icmp .eq 5) 38 (5) 40 := ⟨by decide +kernel, rfl, by decide⟩
theorem d_F_replay_38 : xk_d c_F_replay 38 (.iload_n 1) 1 39 := ⟨by decide +kernel, rfl⟩
theorem d_F_replay_39 : xk_d c_F_replay 39 (.ireturn) 1 40 := ⟨by decide +kernel, rfl⟩
theorem d_F_replay_40 : xk_d c_F_replay 40 (.iinc 1 1) 3 43 := ⟨by decide +kernel, rfl⟩
theorem d_F_replay_43 : xk_b c_F_replay 43 (.goto (-34)) 46 (-34) 9 := ⟨by decide +kernel, rfl, by decide⟩
theorem d_F_replay_46 : xk_d c_F_replay 46 (.iconst (-1)) 1 47 := ⟨by decide +kernel, rfl⟩
theorem d_F_replay_47 : xk_d c_F_replay 47 (.ireturn) 1 48 := ⟨by decide +kernel, rfl⟩
theorem d_F_number_0 : xk_d c_F_number 0 (.iload_n 1) 1 1 := ⟨by decide +kernel, rfl⟩
theorem d_F_number_1 : xk_b c_F_number 1 (.ifCond .lt 20) 4 (20) 21 := ⟨by decide +kernel, rfl, by decide⟩
theorem d_F_number_4 : xk_d c_F_number 4 (.iload_n 1) 1 5 := ⟨by decide +kernel, rfl⟩
theorem d_F_number_5 : xk_d c_F_number 5 (.aload_n 0) 1 6 := ⟨by decide +kernel, rfl⟩
theorem d_F_number_6 : xk_d c_F_number 6 (.getfield 72) 3 9 := ⟨by decide +kernel, rfl⟩
theorem d_F_number_9 : xk_b c_F_number 9 (.if_icmp .ge 12) 12 (12) 21 := ⟨by decide +kernel, rfl, by decide⟩
theorem d_F_number_12 : xk_d c_F_number 12 (.aload_n 0) 1 13 := ⟨by decide +kernel, rfl⟩
theorem d_F_number_13 : xk_d c_F_number 13 (.getfield 35) 3 16 := ⟨by decide +kernel, rfl⟩
theorem d_F_number_16 : xk_d c_F_number 16 (.iload_n 1) 1 17 := ⟨by decide +kernel, rfl⟩
theorem d_F_number_17 : xk_d c_F_number 17 (.iaload) 1 18 := ⟨by decide +kernel, rfl⟩
theorem d_F_number_18 : xk_b c_F_number 18 (.goto 4) 21 (4) 22 := ⟨by decide +kernel, rfl, by decide⟩
theorem d_F_number_21 : xk_d c_F_number 21 (.iconst 0) 1 22 := ⟨by decide +kernel, rfl⟩
theorem d_F_number_22 : xk_d c_F_number 22 (.ireturn) 1 23 := ⟨by decide +kernel, rfl⟩
theorem d_F_tile_0 : xk_d c_F_tile 0 (.aload_n 0) 1 1 := ⟨by decide +kernel, rfl⟩
theorem d_F_tile_1 : xk_d c_F_tile 1 (.getfield 28) 3 4 := ⟨by decide +kernel, rfl⟩
theorem d_F_tile_4 : xk_d c_F_tile 4 (.iload_n 1) 1 5 := ⟨by decide +kernel, rfl⟩
theorem d_F_tile_5 : xk_d c_F_tile 5 (.invokevirtual 65) 3 8 := ⟨by decide +kernel, rfl⟩
theorem d_F_tile_8 : xk_b c_F_tile 8 (.ifCond .eq 18) 11 (18) 26 := ⟨by decide +kernel, rfl, by decide⟩
theorem d_F_tile_11 : xk_d c_F_tile 11 (.aload_n 0) 1 12 := ⟨by decide +kernel, rfl⟩
theorem d_F_tile_12 : xk_d c_F_tile 12 (.getfield 28) 3 15 := ⟨by decide +kernel, rfl⟩
theorem d_F_tile_15 : xk_d c_F_tile 15 (.getfield 91) 3 18 := ⟨by decide +kernel, rfl⟩
theorem d_F_tile_18 : xk_d c_F_tile 18 (.iload_n 1) 1 19 := ⟨by decide +kernel, rfl⟩
theorem d_F_tile_19 : xk_d c_F_tile 19 (.aaload) 1 20 := ⟨by decide +kernel, rfl⟩
theorem d_F_tile_20 : xk_d c_F_tile 20 (.invokevirtual 95) 3 23 := ⟨by decide +kernel, rfl⟩
theorem d_F_tile_23 : xk_b c_F_tile 23 (.ifCond .eq 5) 26 (5) 28 := ⟨by decide +kernel, rfl, by decide⟩
theorem d_F_tile_26 : xk_d c_F_tile 26 (.iconst (-1)) 1 27 := ⟨by decide +kernel, rfl⟩
theorem d_F_tile_27 : xk_d c_F_tile 27 (.ireturn) 1 28 := ⟨by decide +kernel, rfl⟩
theorem d_F_tile_28 : xk_d c_F_tile 28 (.aload_n 0) 1 29 := ⟨by decide +kernel, rfl⟩
theorem d_F_tile_29 : xk_d c_F_tile 29 (.getfield 28) 3 32 := ⟨by decide +kernel, rfl⟩
theorem d_F_tile_32 : xk_d c_F_tile 32 (.getfield 91) 3 35 := ⟨by decide +kernel, rfl⟩
theorem d_F_tile_35 : xk_d c_F_tile 35 (.iload_n 1) 1 36 := ⟨by decide +kernel, rfl⟩
theorem d_F_tile_36 : xk_d c_F_tile 36 (.aaload) 1 37 := ⟨by decide +kernel, rfl⟩
theorem d_F_tile_37 : xk_d c_F_tile 37 (.getfield 101) 3 40 := ⟨by decide +kernel, rfl⟩
theorem d_F_tile_40 : xk_d c_F_tile 40 (.ireturn) 1 41 := ⟨by decide +kernel, rfl⟩
theorem d_F_points_0 : xk_d c_F_points 0 (.aload_n 0) 1 1 := ⟨by decide +kernel, rfl⟩
theorem d_F_points_1 : xk_d c_F_points 1 (.getfield 28) 3 4 := ⟨by decide +kernel, rfl⟩
theorem d_F_points_4 : xk_d c_F_points 4 (.iload_n 1) 1 5 := ⟨by decide +kernel, rfl⟩
theorem d_F_points_5 : xk_d c_F_points 5 (.invokevirtual 65) 3 8 := ⟨by decide +kernel, rfl⟩
theorem d_F_points_8 : xk_b c_F_points 8 (.ifCond .eq 18) 11 (18) 26 := ⟨by decide +kernel, rfl, by decide⟩
theorem d_F_points_11 : xk_d c_F_points 11 (.aload_n 0) 1 12 := ⟨by decide +kernel, rfl⟩
theorem d_F_points_12 : xk_d c_F_points 12 (.getfield 28) 3 15 := ⟨by decide +kernel, rfl⟩
theorem d_F_points_15 : xk_d c_F_points 15 (.getfield 91) 3 18 := ⟨by decide +kernel, rfl⟩
theorem d_F_points_18 : xk_d c_F_points 18 (.iload_n 1) 1 19 := ⟨by decide +kernel, rfl⟩
theorem d_F_points_19 : xk_d c_F_points 19 (.aaload) 1 20 := ⟨by decide +kernel, rfl⟩
theorem d_F_points_20 : xk_d c_F_points 20 (.getfield 104) 3 23 := ⟨by decide +kernel, rfl⟩
theorem d_F_points_23 : xk_b c_F_points 23 (.goto 4) 26 (4) 27 := ⟨by decide +kernel, rfl, by decide⟩
theorem d_F_points_26 : xk_d c_F_points 26 (.iconst (-1)) 1 27 := ⟨by decide +kernel, rfl⟩
theorem d_F_points_27 : xk_d c_F_points 27 (.ireturn) 1 28 := ⟨by decide +kernel, rfl⟩
theorem d_F_order_0 : xk_d c_F_order 0 (.aload_n 0) 1 1 := ⟨by decide +kernel, rfl⟩
theorem d_F_order_1 : xk_d c_F_order 1 (.getfield 28) 3 4 := ⟨by decide +kernel, rfl⟩
theorem d_F_order_4 : xk_d c_F_order 4 (.iload_n 1) 1 5 := ⟨by decide +kernel, rfl⟩
theorem d_F_order_5 : xk_d c_F_order 5 (.invokevirtual 65) 3 8 := ⟨by decide +kernel, rfl⟩
theorem d_F_order_8 : xk_b c_F_order 8 (.ifCond .ne 5) 11 (5) 13 := ⟨by decide +kernel, rfl, by decide⟩
theorem d_F_order_11 : xk_d c_F_order 11 (.iconst (-1)) 1 12 := ⟨by decide +kernel, rfl⟩
theorem d_F_order_12 : xk_d c_F_order 12 (.ireturn) 1 13 := ⟨by decide +kernel, rfl⟩
theorem d_F_order_13 : xk_d c_F_order 13 (.aload_n 0) 1 14 := ⟨by decide +kernel, rfl⟩
theorem d_F_order_14 : xk_d c_F_order 14 (.getfield 28) 3 17 := ⟨by decide +kernel, rfl⟩
theorem d_F_order_17 : xk_d c_F_order 17 (.getfield 91) 3 20 := ⟨by decide +kernel, rfl⟩
theorem d_F_order_20 : xk_d c_F_order 20 (.iload_n 1) 1 21 := ⟨by decide +kernel, rfl⟩
theorem d_F_order_21 : xk_d c_F_order 21 (.aaload) 1 22 := ⟨by decide +kernel, rfl⟩
theorem d_F_order_22 : xk_d c_F_order 22 (.getfield 107) 3 25 := ⟨by decide +kernel, rfl⟩
theorem d_F_order_25 : xk_d c_F_order 25 (.iconst 4) 1 26 := ⟨by decide +kernel, rfl⟩
theorem d_F_order_26 : xk_d c_F_order 26 (.aload_n 0) 1 27 := ⟨by decide +kernel, rfl⟩
theorem d_F_order_27 : xk_d c_F_order 27 (.getfield 28) 3 30 := ⟨by decide +kernel, rfl⟩
theorem d_F_order_30 : xk_d c_F_order 30 (.getfield 91) 3 33 := ⟨by decide +kernel, rfl⟩
theorem d_F_order_33 : xk_d c_F_order 33 (.iload_n 1) 1 34 := ⟨by decide +kernel, rfl⟩
theorem d_F_order_34 : xk_d c_F_order 34 (.aaload) 1 35 := ⟨by decide +kernel, rfl⟩
theorem d_F_order_35 : xk_d c_F_order 35 (.getfield 110) 3 38 := ⟨by decide +kernel, rfl⟩
theorem d_F_order_38 : xk_d c_F_order 38 (.imul) 1 39 := ⟨by decide +kernel, rfl⟩
theorem d_F_order_39 : xk_d c_F_order 39 (.iadd) 1 40 := ⟨by decide +kernel, rfl⟩
theorem d_F_order_40 : xk_d c_F_order 40 (.ireturn) 1 41 := ⟨by decide +kernel, rfl⟩
theorem d_F_path_0 : xk_d c_F_path 0 (.aload_n 0) 1 1 := ⟨by decide +kernel, rfl⟩
theorem d_F_path_1 : xk_d c_F_path 1 (.getfield 28) 3 4 := ⟨by decide +kernel, rfl⟩
theorem d_F_path_4 : xk_d c_F_path 4 (.iload_n 1) 1 5 := ⟨by decide +kernel, rfl⟩
theorem d_F_path_5 : xk_d c_F_path 5 (.invokevirtual 65) 3 8 := ⟨by decide +kernel, rfl⟩
theorem d_F_path_8 : xk_b c_F_path 8 (.ifCond .eq 23) 11 (23) 31 := ⟨by decide +kernel, rfl, by decide⟩
theorem d_F_path_11 : xk_d c_F_path 11 (.iload_n 2) 1 12 := ⟨by decide +kernel, rfl⟩
theorem d_F_path_12 : xk_b c_F_path 12 (.ifCond .lt 19) 15 (19) 31 := ⟨by decide +kernel, rfl, by decide⟩
theorem d_F_path_15 : xk_d c_F_path 15 (.iload_n 2) 1 16 := ⟨by decide +kernel, rfl⟩
theorem d_F_path_16 : xk_d c_F_path 16 (.aload_n 0) 1 17 := ⟨by decide +kernel, rfl⟩
theorem d_F_path_17 : xk_d c_F_path 17 (.getfield 28) 3 20 := ⟨by decide +kernel, rfl⟩
theorem d_F_path_20 : xk_d c_F_path 20 (.getfield 91) 3 23 := ⟨by decide +kernel, rfl⟩
theorem d_F_path_23 : xk_d c_F_path 23 (.iload_n 1) 1 24 := ⟨by decide +kernel, rfl⟩
theorem d_F_path_24 : xk_d c_F_path 24 (.aaload) 1 25 := ⟨by decide +kernel, rfl⟩
theorem d_F_path_25 : xk_d c_F_path 25 (.invokevirtual 113) 3 28 := ⟨by decide +kernel, rfl⟩
theorem d_F_path_28 : xk_b c_F_path 28 (.if_icmp .lt 5) 31 (5) 33 := ⟨by decide +kernel, rfl, by decide⟩
theorem d_F_path_31 : xk_d c_F_path 31 (.iconst (-1)) 1 32 := ⟨by decide +kernel, rfl⟩
theorem d_F_path_32 : xk_d c_F_path 32 (.ireturn) 1 33 := ⟨by decide +kernel, rfl⟩
theorem d_F_path_33 : xk_d c_F_path 33 (.aload_n 0) 1 34 := ⟨by decide +kernel, rfl⟩
theorem d_F_path_34 : xk_d c_F_path 34 (.getfield 28) 3 37 := ⟨by decide +kernel, rfl⟩
theorem d_F_path_37 : xk_d c_F_path 37 (.getfield 91) 3 40 := ⟨by decide +kernel, rfl⟩
theorem d_F_path_40 : xk_d c_F_path 40 (.iload_n 1) 1 41 := ⟨by decide +kernel, rfl⟩
theorem d_F_path_41 : xk_d c_F_path 41 (.aaload) 1 42 := ⟨by decide +kernel, rfl⟩
theorem d_F_path_42 : xk_d c_F_path 42 (.iload_n 2) 1 43 := ⟨by decide +kernel, rfl⟩
theorem d_F_path_43 : xk_d c_F_path 43 (.invokevirtual 117) 3 46 := ⟨by decide +kernel, rfl⟩
theorem d_F_path_46 : xk_d c_F_path 46 (.ireturn) 1 47 := ⟨by decide +kernel, rfl⟩
theorem d_F_entries_0 : xk_d c_F_entries 0 (.aload_n 0) 1 1 := ⟨by decide +kernel, rfl⟩
theorem d_F_entries_1 : xk_d c_F_entries 1 (.getfield 19) 3 4 := ⟨by decide +kernel, rfl⟩
theorem d_F_entries_4 : xk_d c_F_entries 4 (.getfield 75) 3 7 := ⟨by decide +kernel, rfl⟩
theorem d_F_entries_7 : xk_d c_F_entries 7 (.ireturn) 1 8 := ⟨by decide +kernel, rfl⟩
theorem d_F_steps_0 : xk_d c_F_steps 0 (.iload_n 1) 1 1 := ⟨by decide +kernel, rfl⟩
theorem d_F_steps_1 : xk_d c_F_steps 1 (.invokestatic 43) 3 4 := ⟨by decide +kernel, rfl⟩
theorem d_F_steps_4 : xk_b c_F_steps 4 (.ifCond .eq 32) 7 (32) 36 := ⟨by decide +kernel, rfl, by decide⟩
theorem d_F_steps_7 : xk_d c_F_steps 7 (.iload_n 2) 1 8 := ⟨by decide +kernel, rfl⟩
theorem d_F_steps_8 : xk_d c_F_steps 8 (.invokestatic 43) 3 11 := ⟨by decide +kernel, rfl⟩
theorem d_F_steps_11 : xk_b c_F_steps 11 (.ifCond .eq 25) 14 (25) 36 := ⟨by decide +kernel, rfl, by decide⟩
theorem d_F_steps_14 : xk_d c_F_steps 14 (.aload_n 0) 1 15 := ⟨by decide +kernel, rfl⟩
theorem d_F_steps_15 : xk_d c_F_steps 15 (.getfield 10) 3 18 := ⟨by decide +kernel, rfl⟩
theorem d_F_steps_18 : xk_d c_F_steps 18 (.iload_n 1) 1 19 := ⟨by decide +kernel, rfl⟩
theorem d_F_steps_19 : xk_d c_F_steps 19 (.invokevirtual 54) 3 22 := ⟨by decide +kernel, rfl⟩
theorem d_F_steps_22 : xk_b c_F_steps 22 (.ifCond .ne 14) 25 (14) 36 := ⟨by decide +kernel, rfl, by decide⟩
theorem d_F_steps_25 : xk_d c_F_steps 25 (.aload_n 0) 1 26 := ⟨by decide +kernel, rfl⟩
theorem d_F_steps_26 : xk_d c_F_steps 26 (.getfield 10) 3 29 := ⟨by decide +kernel, rfl⟩
theorem d_F_steps_29 : xk_d c_F_steps 29 (.iload_n 2) 1 30 := ⟨by decide +kernel, rfl⟩
theorem d_F_steps_30 : xk_d c_F_steps 30 (.invokevirtual 54) 3 33 := ⟨by decide +kernel, rfl⟩
theorem d_F_steps_33 : xk_b c_F_steps 33 (.ifCond .eq 5) 36 (5) 38 := ⟨by decide +kernel, rfl, by decide⟩
theorem d_F_steps_36 : xk_d c_F_steps 36 (.iconst (-1)) 1 37 := ⟨by decide +kernel, rfl⟩
theorem d_F_steps_37 : xk_d c_F_steps 37 (.ireturn) 1 38 := ⟨by decide +kernel, rfl⟩
theorem d_F_steps_38 : xk_d c_F_steps 38 (.aload_n 0) 1 39 := ⟨by decide +kernel, rfl⟩
theorem d_F_steps_39 : xk_d c_F_steps 39 (.getfield 10) 3 42 := ⟨by decide +kernel, rfl⟩
theorem d_F_steps_42 : xk_d c_F_steps 42 (.iload_n 1) 1 43 := ⟨by decide +kernel, rfl⟩
theorem d_F_steps_43 : xk_d c_F_steps 43 (.iload_n 2) 1 44 := ⟨by decide +kernel, rfl⟩
theorem d_F_steps_44 : xk_d c_F_steps 44 (.lconst 0) 1 45 := ⟨by decide +kernel, rfl⟩
theorem d_F_steps_45 : xk_d c_F_steps 45 (.invokevirtual 121) 3 48 := ⟨by decide +kernel, rfl⟩
theorem d_F_steps_48 : xk_d c_F_steps 48 (.istore_n 3) 1 49 := ⟨by decide +kernel, rfl⟩
theorem d_F_steps_49 : xk_d c_F_steps 49 (.iload_n 3) 1 50 := ⟨by decide +kernel, rfl⟩
theorem d_F_steps_50 : xk_d c_F_steps 50 (.iconst (-1)) 1 51 := ⟨by decide +kernel, rfl⟩
theorem d_F_steps_51 : xk_b c_F_steps 51 (.if_icmp .ne 7) 54 (7) 58 := ⟨by decide +kernel, rfl, by decide⟩
theorem d_F_steps_54 : xk_d c_F_steps 54 (.iconst (-1)) 1 55 := ⟨by decide +kernel, rfl⟩
theorem d_F_steps_55 : xk_b c_F_steps 55 (.goto 4) 58 (4) 59 := ⟨by decide +kernel, rfl, by decide⟩
theorem d_F_steps_58 : xk_d c_F_steps 58 (.iload_n 3) 1 59 := ⟨by decide +kernel, rfl⟩
theorem d_F_steps_59 : xk_d c_F_steps 59 (.ireturn) 1 60 := ⟨by decide +kernel, rfl⟩
theorem d_F_winner_0 : xk_d c_F_winner 0 (.aload_n 0) 1 1 := ⟨by decide +kernel, rfl⟩
theorem d_F_winner_1 : xk_d c_F_winner 1 (.getfield 28) 3 4 := ⟨by decide +kernel, rfl⟩
theorem d_F_winner_4 : xk_d c_F_winner 4 (.iconst 0) 1 5 := ⟨by decide +kernel, rfl⟩
theorem d_F_winner_5 : xk_d c_F_winner 5 (.invokevirtual 125) 3 8 := ⟨by decide +kernel, rfl⟩
theorem d_F_winner_8 : xk_d c_F_winner 8 (.istore_n 1) 1 9 := ⟨by decide +kernel, rfl⟩
theorem d_F_winner_9 : xk_d c_F_winner 9 (.aload_n 0) 1 10 := ⟨by decide +kernel, rfl⟩
theorem d_F_winner_10 : xk_d c_F_winner 10 (.getfield 28) 3 13 := ⟨by decide +kernel, rfl⟩
theorem d_F_winner_13 : xk_d c_F_winner 13 (.iconst 1) 1 14 := ⟨by decide +kernel, rfl⟩
theorem d_F_winner_14 : xk_d c_F_winner 14 (.invokevirtual 125) 3 17 := ⟨by decide +kernel, rfl⟩
theorem d_F_winner_17 : xk_d c_F_winner 17 (.istore_n 2) 1 18 := ⟨by decide +kernel, rfl⟩
theorem d_F_winner_18 : xk_d c_F_winner 18 (.iload_n 1) 1 19 := ⟨by decide +kernel, rfl⟩
theorem d_F_winner_19 : xk_b c_F_winner 19 (.ifCond .eq 9) 22 (9) 28 := ⟨by decide +kernel, rfl, by decide⟩
theorem d_F_winner_22 : xk_d c_F_winner 22 (.iload_n 2) 1 23 := ⟨by decide +kernel, rfl⟩
theorem d_F_winner_23 : xk_b c_F_winner 23 (.ifCond .eq 5) 26 (5) 28 := ⟨by decide +kernel, rfl, by decide⟩
theorem d_F_winner_26 : xk_d c_F_winner 26 (.iconst 2) 1 27 := ⟨by decide +kernel, rfl⟩
theorem d_F_winner_27 : xk_d c_F_winner 27 (.ireturn) 1 28 := ⟨by decide +kernel, rfl⟩
theorem d_F_winner_28 : xk_d c_F_winner 28 (.iload_n 1) 1 29 := ⟨by decide +kernel, rfl⟩
theorem d_F_winner_29 : xk_b c_F_winner 29 (.ifCond .eq 5) 32 (5) 34 := ⟨by decide +kernel, rfl, by decide⟩
theorem d_F_winner_32 : xk_d c_F_winner 32 (.iconst 0) 1 33 := ⟨by decide +kernel, rfl⟩
theorem d_F_winner_33 : xk_d c_F_winner 33 (.ireturn) 1 34 := ⟨by decide +kernel, rfl⟩
theorem d_F_winner_34 : xk_d c_F_winner 34 (.iload_n 2) 1 35 := ⟨by decide +kernel, rfl⟩
theorem d_F_winner_35 : xk_b c_F_winner 35 (.ifCond .eq 7) 38 (7) 42 := ⟨by decide +kernel, rfl, by decide⟩
theorem d_F_winner_38 : xk_d c_F_winner 38 (.iconst 1) 1 39 := ⟨by decide +kernel, rfl⟩
theorem d_F_winner_39 : xk_b c_F_winner 39 (.goto 4) 42 (4) 43 := ⟨by decide +kernel, rfl, by decide⟩
theorem d_F_winner_42 : xk_d c_F_winner 42 (.iconst 3) 1 43 := ⟨by decide +kernel, rfl⟩
theorem d_F_winner_43 : xk_d c_F_winner 43 (.ireturn) 1 44 := ⟨by decide +kernel, rfl⟩
theorem d_F_isKindWithNumber_0 : xk_d c_F_isKindWithNumber 0 (.iload_n 2) 1 1 := ⟨by decide +kernel, rfl⟩
theorem d_F_isKindWithNumber_1 : decode c_F_isKindWithNumber 1 = .ok (.tableswitch 56 0 2 #[27, 29, 34], 27) := by decide +kernel
theorem d_F_isKindWithNumber_28 : xk_d c_F_isKindWithNumber 28 (.iconst 1) 1 29 := ⟨by decide +kernel, rfl⟩
theorem d_F_isKindWithNumber_29 : xk_d c_F_isKindWithNumber 29 (.ireturn) 1 30 := ⟨by decide +kernel, rfl⟩
theorem d_F_isKindWithNumber_30 : xk_d c_F_isKindWithNumber 30 (.iload_n 3) 1 31 := ⟨by decide +kernel, rfl⟩
theorem d_F_isKindWithNumber_31 : xk_d c_F_isKindWithNumber 31 (.invokestatic 43) 3 34 := ⟨by decide +kernel, rfl⟩
theorem d_F_isKindWithNumber_34 : xk_d c_F_isKindWithNumber 34 (.ireturn) 1 35 := ⟨by decide +kernel, rfl⟩
theorem d_F_isKindWithNumber_35 : xk_d c_F_isKindWithNumber 35 (.aload_n 0) 1 36 := ⟨by decide +kernel, rfl⟩
theorem d_F_isKindWithNumber_36 : xk_d c_F_isKindWithNumber 36 (.getfield 28) 3 39 := ⟨by decide +kernel, rfl⟩
theorem d_F_isKindWithNumber_39 : xk_d c_F_isKindWithNumber 39 (.iload_n 3) 1 40 := ⟨by decide +kernel, rfl⟩
theorem d_F_isKindWithNumber_40 : xk_d c_F_isKindWithNumber 40 (.invokevirtual 65) 3 43 := ⟨by decide +kernel, rfl⟩
theorem d_F_isKindWithNumber_43 : xk_b c_F_isKindWithNumber 43 (.ifCond .eq 12) 46 (12) 55 := ⟨by decide +kernel, rfl, by decide⟩
theorem d_F_isKindWithNumber_46 : xk_d c_F_isKindWithNumber 46 (.iload_n 3) 1 47 := ⟨by decide +kernel, rfl⟩
theorem d_F_isKindWithNumber_47 : xk_d c_F_isKindWithNumber 47 (.iload_n 1) 1 48 := ⟨by decide +kernel, rfl⟩
theorem d_F_isKindWithNumber_48 : xk_b c_F_isKindWithNumber 48 (.if_icmp .eq 7) 51 (7) 55 := ⟨by decide +kernel, rfl, by decide⟩
theorem d_F_isKindWithNumber_51 : xk_d c_F_isKindWithNumber 51 (.iconst 1) 1 52 := ⟨by decide +kernel, rfl⟩
theorem d_F_isKindWithNumber_52 : xk_b c_F_isKindWithNumber 52 (.goto 4) 55 (4) 56 := ⟨by decide +kernel, rfl, by decide⟩
theorem d_F_isKindWithNumber_55 : xk_d c_F_isKindWithNumber 55 (.iconst 0) 1 56 := ⟨by decide +kernel, rfl⟩
theorem d_F_isKindWithNumber_56 : xk_d c_F_isKindWithNumber 56 (.ireturn) 1 57 := ⟨by decide +kernel, rfl⟩
theorem d_F_isKindWithNumber_57 : xk_d c_F_isKindWithNumber 57 (.iconst 0) 1 58 := ⟨by decide +kernel, rfl⟩
theorem d_F_isKindWithNumber_58 : xk_d c_F_isKindWithNumber 58 (.ireturn) 1 59 := ⟨by decide +kernel, rfl⟩
theorem d_F_isTile_0 : xk_d c_F_isTile 0 (.iload_n 0) 1 1 := ⟨by decide +kernel, rfl⟩
theorem d_F_isTile_1 : xk_b c_F_isTile 1 (.ifCond .lt 13) 4 (13) 14 := ⟨by decide +kernel, rfl, by decide⟩
theorem d_F_isTile_4 : xk_d c_F_isTile 4 (.iload_n 0) 1 5 := ⟨by decide +kernel, rfl⟩
theorem d_F_isTile_5 : xk_d c_F_isTile 5 (.bipush 64) 2 7 := ⟨by decide +kernel, rfl⟩
theorem d_F_isTile_7 : xk_b c_F_isTile 7 (.if_icmp .ge 7) 10 (7) 14 := ⟨by decide +kernel, rfl, by decide⟩
theorem d_F_isTile_10 : xk_d c_F_isTile 10 (.iconst 1) 1 11 := ⟨by decide +kernel, rfl⟩
theorem d_F_isTile_11 : xk_b c_F_isTile 11 (.goto 4) 14 (4) 15 := ⟨by decide +kernel, rfl, by decide⟩
theorem d_F_isTile_14 : xk_d c_F_isTile 14 (.iconst 0) 1 15 := ⟨by decide +kernel, rfl⟩
theorem d_F_isTile_15 : xk_d c_F_isTile 15 (.ireturn) 1 16 := ⟨by decide +kernel, rfl⟩
end
section
/-! decode rows -/
theorem d_M_init_0 : xk_d c_M_init 0 (.aload_n 0) 1 1 := ⟨by decide +kernel, rfl⟩
theorem d_M_init_1 : xk_d c_M_init 1 (.invokespecial 1) 3 4 := ⟨by decide +kernel, rfl⟩
theorem d_M_init_4 : xk_d c_M_init 4 (.aload_n 0) 1 5 := ⟨by decide +kernel, rfl⟩
theorem d_M_init_5 : xk_d c_M_init 5 (.bipush 64) 2 7 := ⟨by decide +kernel, rfl⟩
theorem d_M_init_7 : xk_d c_M_init 7 (.newarray .boolean) 2 9 := ⟨by decide +kernel, rfl⟩
theorem d_M_init_9 : xk_d c_M_init 9 (.putfield 7) 3 12 := ⟨by decide +kernel, rfl⟩
theorem d_M_init_12 : xk_d c_M_init 12 (.aload_n 0) 1 13 := ⟨by decide +kernel, rfl⟩
theorem d_M_init_13 : xk_d c_M_init 13 (.bipush 8) 2 15 := ⟨by decide +kernel, rfl⟩
theorem d_M_init_15 : xk_d c_M_init 15 (.newarray .int) 2 17 := ⟨by decide +kernel, rfl⟩
theorem d_M_init_17 : xk_d c_M_init 17 (.putfield 13) 3 20 := ⟨by decide +kernel, rfl⟩
theorem d_M_init_20 : xk_d c_M_init 20 (.aload_n 0) 1 21 := ⟨by decide +kernel, rfl⟩
theorem d_M_init_21 : xk_d c_M_init 21 (.bipush 8) 2 23 := ⟨by decide +kernel, rfl⟩
theorem d_M_init_23 : xk_d c_M_init 23 (.newarray .int) 2 25 := ⟨by decide +kernel, rfl⟩
theorem d_M_init_25 : xk_d c_M_init 25 (.putfield 17) 3 28 := ⟨by decide +kernel, rfl⟩
theorem d_M_init_28 : xk_d c_M_init 28 (.aload_n 0) 1 29 := ⟨by decide +kernel, rfl⟩
theorem d_M_init_29 : xk_d c_M_init 29 (.sipush 200) 3 32 := ⟨by decide +kernel, rfl⟩
theorem d_M_init_32 : xk_d c_M_init 32 (.newarray .int) 2 34 := ⟨by decide +kernel, rfl⟩
theorem d_M_init_34 : xk_d c_M_init 34 (.putfield 20) 3 37 := ⟨by decide +kernel, rfl⟩
theorem d_M_init_37 : xk_d c_M_init 37 (.aload_n 0) 1 38 := ⟨by decide +kernel, rfl⟩
theorem d_M_init_38 : xk_d c_M_init 38 (.bipush 24) 2 40 := ⟨by decide +kernel, rfl⟩
theorem d_M_init_40 : xk_d c_M_init 40 (.newarray .int) 2 42 := ⟨by decide +kernel, rfl⟩
theorem d_M_init_42 : xk_d c_M_init 42 (.putfield 23) 3 45 := ⟨by decide +kernel, rfl⟩
theorem d_M_init_45 : xk_d c_M_init 45 (.aload_n 0) 1 46 := ⟨by decide +kernel, rfl⟩
theorem d_M_init_46 : xk_d c_M_init 46 (.bipush 24) 2 48 := ⟨by decide +kernel, rfl⟩
theorem d_M_init_48 : xk_d c_M_init 48 (.newarray .int) 2 50 := ⟨by decide +kernel, rfl⟩
theorem d_M_init_50 : xk_d c_M_init 50 (.putfield 26) 3 53 := ⟨by decide +kernel, rfl⟩
theorem d_M_init_53 : xk_d c_M_init 53 (.aload_n 0) 1 54 := ⟨by decide +kernel, rfl⟩
theorem d_M_init_54 : xk_d c_M_init 54 (.bipush 24) 2 56 := ⟨by decide +kernel, rfl⟩
theorem d_M_init_56 : xk_d c_M_init 56 (.newarray .int) 2 58 := ⟨by decide +kernel, rfl⟩
theorem d_M_init_58 : xk_d c_M_init 58 (.putfield 29) 3 61 := ⟨by decide +kernel, rfl⟩
theorem d_M_init_61 : xk_d c_M_init 61 (.aload_n 0) 1 62 := ⟨by decide +kernel, rfl⟩
theorem d_M_init_62 : xk_d c_M_init 62 (.bipush 24) 2 64 := ⟨by decide +kernel, rfl⟩
theorem d_M_init_64 : xk_d c_M_init 64 (.newarray .int) 2 66 := ⟨by decide +kernel, rfl⟩
theorem d_M_init_66 : xk_d c_M_init 66 (.putfield 32) 3 69 := ⟨by decide +kernel, rfl⟩
theorem d_M_init_69 : xk_d c_M_init 69 (.aload_n 0) 1 70 := ⟨by decide +kernel, rfl⟩
theorem d_M_init_70 : xk_d c_M_init 70 (.bipush 8) 2 72 := ⟨by decide +kernel, rfl⟩
theorem d_M_init_72 : xk_d c_M_init 72 (.newarray .int) 2 74 := ⟨by decide +kernel, rfl⟩
theorem d_M_init_74 : xk_d c_M_init 74 (.putfield 35) 3 77 := ⟨by decide +kernel, rfl⟩
theorem d_M_init_77 : xk_d c_M_init 77 (.aload_n 0) 1 78 := ⟨by decide +kernel, rfl⟩
theorem d_M_init_78 : xk_d c_M_init 78 (.bipush 8) 2 80 := ⟨by decide +kernel, rfl⟩
theorem d_M_init_80 : xk_d c_M_init 80 (.newarray .int) 2 82 := ⟨by decide +kernel, rfl⟩
theorem d_M_init_82 : xk_d c_M_init 82 (.putfield 38) 3 85 := ⟨by decide +kernel, rfl⟩
theorem d_M_init_85 : xk_d c_M_init 85 (.aload_n 0) 1 86 := ⟨by decide +kernel, rfl⟩
theorem d_M_init_86 : xk_d c_M_init 86 (.bipush 8) 2 88 := ⟨by decide +kernel, rfl⟩
theorem d_M_init_88 : xk_d c_M_init 88 (.newarray .int) 2 90 := ⟨by decide +kernel, rfl⟩
theorem d_M_init_90 : xk_d c_M_init 90 (.putfield 41) 3 93 := ⟨by decide +kernel, rfl⟩
theorem d_M_init_93 : xk_d c_M_init 93 (.aload_n 0) 1 94 := ⟨by decide +kernel, rfl⟩
theorem d_M_init_94 : xk_d c_M_init 94 (.bipush 8) 2 96 := ⟨by decide +kernel, rfl⟩
theorem d_M_init_96 : xk_d c_M_init 96 (.newarray .int) 2 98 := ⟨by decide +kernel, rfl⟩
theorem d_M_init_98 : xk_d c_M_init 98 (.putfield 44) 3 101 := ⟨by decide +kernel, rfl⟩
theorem d_M_init_101 : xk_d c_M_init 101 (.aload_n 0) 1 102 := ⟨by decide +kernel, rfl⟩
theorem d_M_init_102 : xk_d c_M_init 102 (.bipush 8) 2 104 := ⟨by decide +kernel, rfl⟩
theorem d_M_init_104 : xk_d c_M_init 104 (.newarray .int) 2 106 := ⟨by decide +kernel, rfl⟩
theorem d_M_init_106 : xk_d c_M_init 106 (.putfield 47) 3 109 := ⟨by decide +kernel, rfl⟩
theorem d_M_init_109 : xk_d c_M_init 109 (.aload_n 0) 1 110 := ⟨by decide +kernel, rfl⟩
theorem d_M_init_110 : xk_d c_M_init 110 (.sipush 512) 3 113 := ⟨by decide +kernel, rfl⟩
theorem d_M_init_113 : xk_d c_M_init 113 (.newarray .int) 2 115 := ⟨by decide +kernel, rfl⟩
theorem d_M_init_115 : xk_d c_M_init 115 (.putfield 50) 3 118 := ⟨by decide +kernel, rfl⟩
theorem d_M_init_118 : xk_d c_M_init 118 (.aload_n 0) 1 119 := ⟨by decide +kernel, rfl⟩
theorem d_M_init_119 : xk_d c_M_init 119 (.bipush 8) 2 121 := ⟨by decide +kernel, rfl⟩
theorem d_M_init_121 : xk_d c_M_init 121 (.newarray .int) 2 123 := ⟨by decide +kernel, rfl⟩
theorem d_M_init_123 : xk_d c_M_init 123 (.putfield 53) 3 126 := ⟨by decide +kernel, rfl⟩
theorem d_M_init_126 : xk_d c_M_init 126 (.aload_n 0) 1 127 := ⟨by decide +kernel, rfl⟩
theorem d_M_init_127 : xk_d c_M_init 127 (.bipush 8) 2 129 := ⟨by decide +kernel, rfl⟩
theorem d_M_init_129 : xk_d c_M_init 129 (.newarray .int) 2 131 := ⟨by decide +kernel, rfl⟩
theorem d_M_init_131 : xk_d c_M_init 131 (.putfield 56) 3 134 := ⟨by decide +kernel, rfl⟩
theorem d_M_init_134 : xk_d c_M_init 134 (.aload_n 0) 1 135 := ⟨by decide +kernel, rfl⟩
theorem d_M_init_135 : xk_d c_M_init 135 (.bipush 8) 2 137 := ⟨by decide +kernel, rfl⟩
theorem d_M_init_137 : xk_d c_M_init 137 (.newarray .int) 2 139 := ⟨by decide +kernel, rfl⟩
theorem d_M_init_139 : xk_d c_M_init 139 (.putfield 59) 3 142 := ⟨by decide +kernel, rfl⟩
theorem d_M_init_142 : xk_d c_M_init 142 (.aload_n 0) 1 143 := ⟨by decide +kernel, rfl⟩
theorem d_M_init_143 : xk_d c_M_init 143 (.bipush 8) 2 145 := ⟨by decide +kernel, rfl⟩
theorem d_M_init_145 : xk_d c_M_init 145 (.newarray .int) 2 147 := ⟨by decide +kernel, rfl⟩
theorem d_M_init_147 : xk_d c_M_init 147 (.putfield 62) 3 150 := ⟨by decide +kernel, rfl⟩
theorem d_M_init_150 : xk_d c_M_init 150 (.aload_n 0) 1 151 := ⟨by decide +kernel, rfl⟩
theorem d_M_init_151 : xk_d c_M_init 151 (.bipush 8) 2 153 := ⟨by decide +kernel, rfl⟩
theorem d_M_init_153 : xk_d c_M_init 153 (.newarray .int) 2 155 := ⟨by decide +kernel, rfl⟩
theorem d_M_init_155 : xk_d c_M_init 155 (.putfield 65) 3 158 := ⟨by decide +kernel, rfl⟩
theorem d_M_init_158 : xk_d c_M_init 158 (.aload_n 0) 1 159 := ⟨by decide +kernel, rfl⟩
theorem d_M_init_159 : xk_d c_M_init 159 (.bipush 8) 2 161 := ⟨by decide +kernel, rfl⟩
theorem d_M_init_161 : xk_d c_M_init 161 (.newarray .int) 2 163 := ⟨by decide +kernel, rfl⟩
theorem d_M_init_163 : xk_d c_M_init 163 (.putfield 68) 3 166 := ⟨by decide +kernel, rfl⟩
theorem d_M_init_166 : xk_d c_M_init 166 (.aload_n 0) 1 167 := ⟨by decide +kernel, rfl⟩
theorem d_M_init_167 : xk_d c_M_init 167 (.sipush 512) 3 170 := ⟨by decide +kernel, rfl⟩
theorem d_M_init_170 : xk_d c_M_init 170 (.newarray .int) 2 172 := ⟨by decide +kernel, rfl⟩
theorem d_M_init_172 : xk_d c_M_init 172 (.putfield 71) 3 175 := ⟨by decide +kernel, rfl⟩
theorem d_M_init_175 : xk_d c_M_init 175 (.aload_n 0) 1 176 := ⟨by decide +kernel, rfl⟩
theorem d_M_init_176 : xk_d c_M_init 176 (.bipush 8) 2 178 := ⟨by decide +kernel, rfl⟩
theorem d_M_init_178 : xk_d c_M_init 178 (.newarray .int) 2 180 := ⟨by decide +kernel, rfl⟩
theorem d_M_init_180 : xk_d c_M_init 180 (.putfield 74) 3 183 := ⟨by decide +kernel, rfl⟩
theorem d_M_init_183 : xk_d c_M_init 183 (.aload_n 0) 1 184 := ⟨by decide +kernel, rfl⟩
theorem d_M_init_184 : xk_d c_M_init 184 (.bipush 64) 2 186 := ⟨by decide +kernel, rfl⟩
theorem d_M_init_186 : xk_d c_M_init 186 (.newarray .int) 2 188 := ⟨by decide +kernel, rfl⟩
theorem d_M_init_188 : xk_d c_M_init 188 (.putfield 77) 3 191 := ⟨by decide +kernel, rfl⟩
theorem d_M_init_191 : xk_d c_M_init 191 (.aload_n 0) 1 192 := ⟨by decide +kernel, rfl⟩
theorem d_M_init_192 : xk_d c_M_init 192 (.bipush 64) 2 194 := ⟨by decide +kernel, rfl⟩
theorem d_M_init_194 : xk_d c_M_init 194 (.newarray .int) 2 196 := ⟨by decide +kernel, rfl⟩
theorem d_M_init_196 : xk_d c_M_init 196 (.putfield 80) 3 199 := ⟨by decide +kernel, rfl⟩
theorem d_M_init_199 : xk_d c_M_init 199 (.aload_n 0) 1 200 := ⟨by decide +kernel, rfl⟩
theorem d_M_init_200 : xk_d c_M_init 200 (.bipush 64) 2 202 := ⟨by decide +kernel, rfl⟩
theorem d_M_init_202 : xk_d c_M_init 202 (.newarray .int) 2 204 := ⟨by decide +kernel, rfl⟩
theorem d_M_init_204 : xk_d c_M_init 204 (.putfield 83) 3 207 := ⟨by decide +kernel, rfl⟩
theorem d_M_init_207 : xk_d c_M_init 207 (.aload_n 0) 1 208 := ⟨by decide +kernel, rfl⟩
theorem d_M_init_208 : xk_d c_M_init 208 (.bipush 8) 2 210 := ⟨by decide +kernel, rfl⟩
theorem d_M_init_210 : xk_d c_M_init 210 (.newarray .int) 2 212 := ⟨by decide +kernel, rfl⟩
theorem d_M_init_212 : xk_d c_M_init 212 (.putfield 86) 3 215 := ⟨by decide +kernel, rfl⟩
theorem d_M_init_215 : xk_d c_M_init 215 (.return_) 1 216 := ⟨by decide +kernel, rfl⟩
theorem d_M_isTile_0 : xk_d c_M_isTile 0 (.iload_n 0) 1 1 := ⟨by decide +kernel, rfl⟩
theorem d_M_isTile_1 : xk_b c_M_isTile 1 (.ifCond .lt 13) 4 (13) 14 := ⟨by decide +kernel, rfl, by decide⟩
theorem d_M_isTile_4 : xk_d c_M_isTile 4 (.iload_n 0) 1 5 := ⟨by decide +kernel, rfl⟩
theorem d_M_isTile_5 : xk_d c_M_isTile 5 (.bipush 64) 2 7 := ⟨by decide +kernel, rfl⟩
theorem d_M_isTile_7 : xk_b c_M_isTile 7 (.if_icmp .ge 7) 10 (7) 14 := ⟨by decide +kernel, rfl, by decide⟩
theorem d_M_isTile_10 : xk_d c_M_isTile 10 (.iconst 1) 1 11 := ⟨by decide +kernel, rfl⟩
theorem d_M_isTile_11 : xk_b c_M_isTile 11 (.goto 4) 14 (4) 15 := ⟨by decide +kernel, rfl, by decide⟩
theorem d_M_isTile_14 : xk_d c_M_isTile 14 (.iconst 0) 1 15 := ⟨by decide +kernel, rfl⟩
theorem d_M_isTile_15 : xk_d c_M_isTile 15 (.ireturn) 1 16 := ⟨by decide +kernel, rfl⟩
theorem d_M_isUnit_0 : xk_d c_M_isUnit 0 (.iload_n 1) 1 1 := ⟨by decide +kernel, rfl⟩
theorem d_M_isUnit_1 : xk_b c_M_isUnit 1 (.ifCond .lt 15) 4 (15) 16 := ⟨by decide +kernel, rfl, by decide⟩
theorem d_M_isUnit_4 : xk_d c_M_isUnit 4 (.iload_n 1) 1 5 := ⟨by decide +kernel, rfl⟩
theorem d_M_isUnit_5 : xk_d c_M_isUnit 5 (.aload_n 0) 1 6 := ⟨by decide +kernel, rfl⟩
theorem d_M_isUnit_6 : xk_d c_M_isUnit 6 (.getfield 89) 3 9 := ⟨by decide +kernel, rfl⟩
theorem d_M_isUnit_9 : xk_b c_M_isUnit 9 (.if_icmp .ge 7) 12 (7) 16 := ⟨by decide +kernel, rfl, by decide⟩
theorem d_M_isUnit_12 : xk_d c_M_isUnit 12 (.iconst 1) 1 13 := ⟨by decide +kernel, rfl⟩
theorem d_M_isUnit_13 : xk_b c_M_isUnit 13 (.goto 4) 16 (4) 17 := ⟨by decide +kernel, rfl, by decide⟩
theorem d_M_isUnit_16 : xk_d c_M_isUnit 16 (.iconst 0) 1 17 := ⟨by decide +kernel, rfl⟩
theorem d_M_isUnit_17 : xk_d c_M_isUnit 17 (.ireturn) 1 18 := ⟨by decide +kernel, rfl⟩
theorem d_M_isTaken_0 : xk_d c_M_isTaken 0 (.iconst 0) 1 1 := ⟨by decide +kernel, rfl⟩
theorem d_M_isTaken_1 : xk_d c_M_isTaken 1 (.istore_n 2) 1 2 := ⟨by decide +kernel, rfl⟩
theorem d_M_isTaken_2 : xk_d c_M_isTaken 2 (.iconst 0) 1 3 := ⟨by decide +kernel, rfl⟩
theorem d_M_isTaken_3 : xk_d c_M_isTaken 3 (.istore_n 3) 1 4 := ⟨by decide +kernel, rfl⟩
theorem d_M_isTaken_4 : xk_d c_M_isTaken 4 (.iload_n 3) 1 5 := ⟨by decide +kernel, rfl⟩
theorem d_M_isTaken_5 : xk_d c_M_isTaken 5 (.aload_n 0) 1 6 := ⟨by decide +kernel, rfl⟩
theorem d_M_isTaken_6 : xk_d c_M_isTaken 6 (.getfield 89) 3 9 := ⟨by decide +kernel, rfl⟩
theorem d_M_isTaken_9 : xk_b c_M_isTaken 9 (.if_icmp .ge 38) 12 (38) 47 := ⟨by decide +kernel, rfl, by decide⟩
theorem d_M_isTaken_12 : xk_d c_M_isTaken 12 (.iload_n 2) 1 13 := ⟨by decide +kernel, rfl⟩
theorem d_M_isTaken_13 : xk_b c_M_isTaken 13 (.ifCond .ne 22) 16 (22) 35 := ⟨by decide +kernel, rfl, by decide⟩
theorem d_M_isTaken_16 : xk_d c_M_isTaken 16 (.aload_n 0) 1 17 := ⟨by decide +kernel, rfl⟩
theorem d_M_isTaken_17 : xk_d c_M_isTaken 17 (.getfield 35) 3 20 := ⟨by decide +kernel, rfl⟩
theorem d_M_isTaken_20 : xk_d c_M_isTaken 20 (.iload_n 3) 1 21 := ⟨by decide +kernel, rfl⟩
theorem d_M_isTaken_21 : xk_d c_M_isTaken 21 (.iaload) 1 22 := ⟨by decide +kernel, rfl⟩
theorem d_M_isTaken_22 : xk_b c_M_isTaken 22 (.ifCond .le 17) 25 (17) 39 := ⟨by decide +kernel, rfl, by decide⟩
theorem d_M_isTaken_25 : xk_d c_M_isTaken 25 (.aload_n 0) 1 26 := ⟨by decide +kernel, rfl⟩
theorem d_M_isTaken_26 : xk_d c_M_isTaken 26 (.getfield 38) 3 29 := ⟨by decide +kernel, rfl⟩
theorem d_M_isTaken_29 : xk_d c_M_isTaken 29 (.iload_n 3) 1 30 := ⟨by decide +kernel, rfl⟩
theorem d_M_isTaken_30 : xk_d c_M_isTaken 30 (.iaload) 1 31 := ⟨by decide +kernel, rfl⟩
theorem d_M_isTaken_31 : xk_d c_M_isTaken 31 (.iload_n 1) 1 32 := ⟨by decide +kernel, rfl⟩
theorem d_M_isTaken_32 : xk_b c_M_isTaken 32 (.if_icmp .ne 7) 35 (7) 39 := ⟨by decide +kernel, rfl, by decide⟩
theorem d_M_isTaken_35 : xk_d c_M_isTaken 35 (.iconst 1) 1 36 := ⟨by decide +kernel, rfl⟩
theorem d_M_isTaken_36 : xk_b c_M_isTaken 36 (.goto 4) 39 (4) 40 := ⟨by decide +kernel, rfl, by decide⟩
theorem d_M_isTaken_39 : xk_d c_M_isTaken 39 (.iconst 0) 1 40 := ⟨by decide +kernel, rfl⟩
theorem d_M_isTaken_40 : xk_d c_M_isTaken 40 (.istore_n 2) 1 41 := ⟨by decide +kernel, rfl⟩
theorem d_M_isTaken_41 : xk_d c_M_isTaken 41 (.iinc 3 1) 3 44 := ⟨by decide +kernel, rfl⟩
theorem d_M_isTaken_44 : xk_b c_M_isTaken 44 (.goto (-40)) 47 (-40) 4 := ⟨by decide +kernel, rfl, by decide⟩
theorem d_M_isTaken_47 : xk_d c_M_isTaken 47 (.iload_n 2) 1 48 := ⟨by decide +kernel, rfl⟩
theorem d_M_isTaken_48 : xk_d c_M_isTaken 48 (.ireturn) 1 49 := ⟨by decide +kernel, rfl⟩
theorem d_M_wall_0 : xk_d c_M_wall 0 (.aload_n 0) 1 1 := ⟨by decide +kernel, rfl⟩
theorem d_M_wall_1 : xk_d c_M_wall 1 (.getfield 93) 3 4 := ⟨by decide +kernel, rfl⟩
theorem d_M_wall_4 : xk_b c_M_wall 4 (.ifCond .ne 18) 7 (18) 22 := ⟨by decide +kernel, rfl, by decide⟩
theorem d_M_wall_7 : xk_d c_M_wall 7 (.iload_n 1) 1 8 := ⟨by decide +kernel, rfl⟩
theorem d_M_wall_8 : xk_d c_M_wall 8 (.invokestatic 97) 3 11 := ⟨by decide +kernel, rfl⟩
theorem d_M_wall_11 : xk_b c_M_wall 11 (.ifCond .eq 11) 14 (11) 22 := ⟨by decide +kernel, rfl, by decide⟩
theorem d_M_wall_14 : xk_d c_M_wall 14 (.aload_n 0) 1 15 := ⟨by decide +kernel, rfl⟩
theorem d_M_wall_15 : xk_d c_M_wall 15 (.iload_n 1) 1 16 := ⟨by decide +kernel, rfl⟩
theorem d_M_wall_16 : xk_d c_M_wall 16 (.invokevirtual 101) 3 19 := ⟨by decide +kernel, rfl⟩
theorem d_M_wall_19 : xk_b c_M_wall 19 (.ifCond .eq 5) 22 (5) 24 := ⟨by decide +kernel, rfl, by decide⟩
theorem d_M_wall_22 : xk_d c_M_wall 22 (.iconst 0) 1 23 := ⟨by decide +kernel, rfl⟩
theorem d_M_wall_23 : xk_d c_M_wall 23 (.ireturn) 1 24 := ⟨by decide +kernel, rfl⟩
theorem d_M_wall_24 : xk_d c_M_wall 24 (.aload_n 0) 1 25 := ⟨by decide +kernel, rfl⟩
theorem d_M_wall_25 : xk_d c_M_wall 25 (.getfield 7) 3 28 := ⟨by decide +kernel, rfl⟩
theorem d_M_wall_28 : xk_d c_M_wall 28 (.iload_n 1) 1 29 := ⟨by decide +kernel, rfl⟩
theorem d_M_wall_29 : xk_d c_M_wall 29 (.iload_n 2) 1 30 := ⟨by decide +kernel, rfl⟩
theorem d_M_wall_30 : xk_d c_M_wall 30 (.bastore) 1 31 := ⟨by decide +kernel, rfl⟩
theorem d_M_wall_31 : xk_d c_M_wall 31 (.iconst 1) 1 32 := ⟨by decide +kernel, rfl⟩
theorem d_M_wall_32 : xk_d c_M_wall 32 (.ireturn) 1 33 := ⟨by decide +kernel, rfl⟩
theorem d_M_unit_0 : xk_d c_M_unit 0 (.aload_n 0) 1 1 := ⟨by decide +kernel, rfl⟩
theorem d_M_unit_1 : xk_d c_M_unit 1 (.getfield 93) 3 4 := ⟨by decide +kernel, rfl⟩
theorem d_M_unit_4 : xk_b c_M_unit 4 (.ifCond .eq 6) 7 (6) 10 := ⟨by decide +kernel, rfl, by decide⟩
theorem d_M_unit_7 : xk_d c_M_unit 7 (.bipush (-3)) 2 9 := ⟨by decide +kernel, rfl⟩
theorem d_M_unit_9 : xk_d c_M_unit 9 (.ireturn) 1 10 := ⟨by decide +kernel, rfl⟩
theorem d_M_unit_10 : xk_d c_M_unit 10 (.iload_n 1) 1 11 := ⟨by decide +kernel, rfl⟩
theorem d_M_unit_11 : xk_b c_M_unit 11 (.ifCond .lt 32) 14 (32) 43 := ⟨by decide +kernel, rfl, by decide⟩
theorem d_M_unit_14 : xk_d c_M_unit 14 (.iload_n 1) 1 15 := ⟨by decide +kernel, rfl⟩
theorem d_M_unit_15 : xk_d c_M_unit 15 (.iconst 1) 1 16 := ⟨by decide +kernel, rfl⟩
theorem d_M_unit_16 : xk_b c_M_unit 16 (.if_icmp .gt 27) 19 (27) 43 := ⟨by decide +kernel, rfl, by decide⟩
theorem d_M_unit_19 : xk_d c_M_unit 19 (.iload_n 2) 1 20 := ⟨by decide +kernel, rfl⟩
theorem d_M_unit_20 : xk_d c_M_unit 20 (.invokestatic 97) 3 23 := ⟨by decide +kernel, rfl⟩
theorem d_M_unit_23 : xk_b c_M_unit 23 (.ifCond .eq 20) 26 (20) 43 := ⟨by decide +kernel, rfl, by decide⟩
theorem d_M_unit_26 : xk_d c_M_unit 26 (.aload_n 0) 1 27 := ⟨by decide +kernel, rfl⟩
theorem d_M_unit_27 : xk_d c_M_unit 27 (.getfield 7) 3 30 := ⟨by decide +kernel, rfl⟩
theorem d_M_unit_30 : xk_d c_M_unit 30 (.iload_n 2) 1 31 := ⟨by decide +kernel, rfl⟩
theorem d_M_unit_31 : xk_d c_M_unit 31 (.baload) 1 32 := ⟨by decide +kernel, rfl⟩
theorem d_M_unit_32 : xk_b c_M_unit 32 (.ifCond .ne 11) 35 (11) 43 := ⟨by decide +kernel, rfl, by decide⟩
theorem d_M_unit_35 : xk_d c_M_unit 35 (.aload_n 0) 1 36 := ⟨by decide +kernel, rfl⟩
theorem d_M_unit_36 : xk_d c_M_unit 36 (.iload_n 2) 1 37 := ⟨by decide +kernel, rfl⟩
theorem d_M_unit_37 : xk_d c_M_unit 37 (.invokevirtual 101) 3 40 := ⟨by decide +kernel, rfl⟩
theorem d_M_unit_40 : xk_b c_M_unit 40 (.ifCond .eq 5) 43 (5) 45 := ⟨by decide +kernel, rfl, by decide⟩
theorem d_M_unit_43 : xk_d c_M_unit 43 (.iconst (-1)) 1 44 := ⟨by decide +kernel, rfl⟩
theorem d_M_unit_44 : xk_d c_M_unit 44 (.ireturn) 1 45 := ⟨by decide +kernel, rfl⟩
theorem d_M_unit_45 : xk_d c_M_unit 45 (.aload_n 0) 1 46 := ⟨by decide +kernel, rfl⟩
theorem d_M_unit_46 : xk_d c_M_unit 46 (.getfield 89) 3 49 := ⟨by decide +kernel, rfl⟩
theorem d_M_unit_49 : xk_d c_M_unit 49 (.bipush 8) 2 51 := ⟨by decide +kernel, rfl⟩
theorem d_M_unit_51 : xk_b c_M_unit 51 (.if_icmp .ne 6) 54 (6) 57 := ⟨by decide +kernel, rfl, by decide⟩
theorem d_M_unit_54 : xk_d c_M_unit 54 (.bipush (-2)) 2 56 := ⟨by decide +kernel, rfl⟩
theorem d_M_unit_56 : xk_d c_M_unit 56 (.ireturn) 1 57 := ⟨by decide +kernel, rfl⟩
theorem d_M_unit_57 : xk_d c_M_unit 57 (.aload_n 0) 1 58 := ⟨by decide +kernel, rfl⟩
theorem d_M_unit_58 : xk_d c_M_unit 58 (.getfield 13) 3 61 := ⟨by decide +kernel, rfl⟩
theorem d_M_unit_61 : xk_d c_M_unit 61 (.aload_n 0) 1 62 := ⟨by decide +kernel, rfl⟩
theorem d_M_unit_62 : xk_d c_M_unit 62 (.getfield 89) 3 65 := ⟨by decide +kernel, rfl⟩
theorem d_M_unit_65 : xk_d c_M_unit 65 (.iload_n 1) 1 66 := ⟨by decide +kernel, rfl⟩
theorem d_M_unit_66 : xk_d c_M_unit 66 (.iastore) 1 67 := ⟨by decide +kernel, rfl⟩
theorem d_M_unit_67 : xk_d c_M_unit 67 (.aload_n 0) 1 68 := ⟨by decide +kernel, rfl⟩
theorem d_M_unit_68 : xk_d c_M_unit 68 (.getfield 17) 3 71 := ⟨by decide +kernel, rfl⟩
theorem d_M_unit_71 : xk_d c_M_unit 71 (.aload_n 0) 1 72 := ⟨by decide +kernel, rfl⟩
theorem d_M_unit_72 : xk_d c_M_unit 72 (.getfield 89) 3 75 := ⟨by decide +kernel, rfl⟩
theorem d_M_unit_75 : xk_d c_M_unit 75 (.iload_n 2) 1 76 := ⟨by decide +kernel, rfl⟩
theorem d_M_unit_76 : xk_d c_M_unit 76 (.iastore) 1 77 := ⟨by decide +kernel, rfl⟩
theorem d_M_unit_77 : xk_d c_M_unit 77 (.aload_n 0) 1 78 := ⟨by decide +kernel, rfl⟩
theorem d_M_unit_78 : xk_d c_M_unit 78 (.getfield 38) 3 81 := ⟨by decide +kernel, rfl⟩
theorem d_M_unit_81 : xk_d c_M_unit 81 (.aload_n 0) 1 82 := ⟨by decide +kernel, rfl⟩
theorem d_M_unit_82 : xk_d c_M_unit 82 (.getfield 89) 3 85 := ⟨by decide +kernel, rfl⟩
theorem d_M_unit_85 : xk_d c_M_unit 85 (.iload_n 2) 1 86 := ⟨by decide +kernel, rfl⟩
theorem d_M_unit_86 : xk_d c_M_unit 86 (.iastore) 1 87 := ⟨by decide +kernel, rfl⟩
theorem d_M_unit_87 : xk_d c_M_unit 87 (.aload_n 0) 1 88 := ⟨by decide +kernel, rfl⟩
theorem d_M_unit_88 : xk_d c_M_unit 88 (.getfield 35) 3 91 := ⟨by decide +kernel, rfl⟩
theorem d_M_unit_91 : xk_d c_M_unit 91 (.aload_n 0) 1 92 := ⟨by decide +kernel, rfl⟩
theorem d_M_unit_92 : xk_d c_M_unit 92 (.getfield 89) 3 95 := ⟨by decide +kernel, rfl⟩
theorem d_M_unit_95 : xk_d c_M_unit 95 (.bipush 20) 2 97 := ⟨by decide +kernel, rfl⟩
theorem d_M_unit_97 : xk_d c_M_unit 97 (.iastore) 1 98 := ⟨by decide +kernel, rfl⟩
theorem d_M_unit_98 : xk_d c_M_unit 98 (.aload_n 0) 1 99 := ⟨by decide +kernel, rfl⟩
theorem d_M_unit_99 : xk_d c_M_unit 99 (.dup) 1 100 := ⟨by decide +kernel, rfl⟩
theorem d_M_unit_100 : xk_d c_M_unit 100 (.getfield 89) 3 103 := ⟨by decide +kernel, rfl⟩
theorem d_M_unit_103 : xk_d c_M_unit 103 (.iconst 1) 1 104 := ⟨by decide +kernel, rfl⟩
theorem d_M_unit_104 : xk_d c_M_unit 104 (.iadd) 1 105 := ⟨by decide +kernel, rfl⟩
theorem d_M_unit_105 : xk_d c_M_unit 105 (.putfield 89) 3 108 := ⟨by decide +kernel, rfl⟩
theorem d_M_unit_108 : xk_d c_M_unit 108 (.aload_n 0) 1 109 := ⟨by decide +kernel, rfl⟩
theorem d_M_unit_109 : xk_d c_M_unit 109 (.getfield 89) 3 112 := ⟨by decide +kernel, rfl⟩
theorem d_M_unit_112 : xk_d c_M_unit 112 (.iconst 1) 1 113 := ⟨by decide +kernel, rfl⟩
theorem d_M_unit_113 : xk_d c_M_unit 113 (.isub) 1 114 := ⟨by decide +kernel, rfl⟩
theorem d_M_unit_114 : xk_d c_M_unit 114 (.ireturn) 1 115 := ⟨by decide +kernel, rfl⟩
theorem d_M_begin_0 : xk_d c_M_begin 0 (.aload_n 0) 1 1 := ⟨by decide +kernel, rfl⟩
theorem d_M_begin_1 : xk_d c_M_begin 1 (.getfield 93) 3 4 := ⟨by decide +kernel, rfl⟩
theorem d_M_begin_4 : xk_b c_M_begin 4 (.ifCond .eq 6) 7 (6) 10 := ⟨by decide +kernel, rfl, by decide⟩
theorem d_M_begin_7 : xk_d c_M_begin 7 (.bipush (-3)) 2 9 := ⟨by decide +kernel, rfl⟩
theorem d_M_begin_9 : xk_d c_M_begin 9 (.ireturn) 1 10 := ⟨by decide +kernel, rfl⟩
theorem d_M_begin_10 : xk_d c_M_begin 10 (.aload_n 0) 1 11 := ⟨by decide +kernel, rfl⟩
theorem d_M_begin_11 : xk_d c_M_begin 11 (.iconst 1) 1 12 := ⟨by decide +kernel, rfl⟩
theorem d_M_begin_12 : xk_d c_M_begin 12 (.putfield 93) 3 15 := ⟨by decide +kernel, rfl⟩
theorem d_M_begin_15 : xk_d c_M_begin 15 (.aload_n 0) 1 16 := ⟨by decide +kernel, rfl⟩
theorem d_M_begin_16 : xk_d c_M_begin 16 (.getfield 89) 3 19 := ⟨by decide +kernel, rfl⟩
theorem d_M_begin_19 : xk_d c_M_begin 19 (.ireturn) 1 20 := ⟨by decide +kernel, rfl⟩
theorem d_M_command_0 : xk_d c_M_command 0 (.aload_n 0) 1 1 := ⟨by decide +kernel, rfl⟩
theorem d_M_command_1 : xk_d c_M_command 1 (.iload_n 2) 1 2 := ⟨by decide +kernel, rfl⟩
theorem d_M_command_2 : xk_d c_M_command 2 (.invokevirtual 104) 3 5 := ⟨by decide +kernel, rfl⟩
theorem d_M_command_5 : xk_b c_M_command 5 (.ifCond .eq 16) 8 (16) 21 := ⟨by decide +kernel, rfl, by decide⟩
theorem d_M_command_8 : xk_d c_M_command 8 (.iload_n 3) 1 9 := ⟨by decide +kernel, rfl⟩
theorem d_M_command_9 : xk_b c_M_command 9 (.ifCond .lt 12) 12 (12) 21 := ⟨by decide +kernel, rfl, by decide⟩
theorem d_M_command_12 : xk_d c_M_command 12 (.iload_n 3) 1 13 := ⟨by decide +kernel, rfl⟩
theorem d_M_command_13 : xk_d c_M_command 13 (.iconst 2) 1 14 := ⟨by decide +kernel, rfl⟩
theorem d_M_command_14 : xk_b c_M_command 14 (.if_icmp .gt 7) 17 (7) 21 := ⟨by decide +kernel, rfl, by decide⟩
theorem d_M_command_17 : xk_d c_M_command 17 (.iconst 1) 1 18 := ⟨by decide +kernel, rfl⟩
theorem d_M_command_18 : xk_b c_M_command 18 (.goto 4) 21 (4) 22 := ⟨by decide +kernel, rfl, by decide⟩
theorem d_M_command_21 : xk_d c_M_command 21 (.iconst 0) 1 22 := ⟨by decide +kernel, rfl⟩
theorem d_M_command_22 : xk_d c_M_command 22 (.istore 5) 2 24 := ⟨by decide +kernel, rfl⟩
theorem d_M_command_24 : xk_d c_M_command 24 (.iload 5) 2 26 := ⟨by decide +kernel, rfl⟩
theorem d_M_command_26 : xk_b c_M_command 26 (.ifCond .eq 42) 29 (42) 68 := ⟨by decide +kernel, rfl, by decide⟩
theorem d_M_command_29 : xk_d c_M_command 29 (.iload_n 3) 1 30 := ⟨by decide +kernel, rfl⟩
theorem d_M_command_30 : xk_b c_M_command 30 (.ifCond .eq 34) 33 (34) 64 := ⟨by decide +kernel, rfl, by decide⟩
theorem d_M_command_33 : xk_d c_M_command 33 (.iload_n 3) 1 34 := ⟨by decide +kernel, rfl⟩
theorem d_M_command_34 : xk_d c_M_command 34 (.iconst 1) 1 35 := ⟨by decide +kernel, rfl⟩
theorem d_M_command_35 : xk_b c_M_command 35 (.if_icmp .ne 14) 38 (14) 49 := ⟨by decide +kernel, rfl, by decide⟩
theorem d_M_command_38 : xk_d c_M_command 38 (.iload 4) 2 40 := ⟨by decide +kernel, rfl⟩
theorem d_M_command_40 : xk_d c_M_command 40 (.invokestatic 97) 3 43 := ⟨by decide +kernel, rfl⟩
theorem d_M_command_43 : xk_b c_M_command 43 (.ifCond .eq 25) 46 (25) 68 := ⟨by decide +kernel, rfl, by decide⟩
theorem d_M_command_46 : xk_b c_M_command 46 (.goto 18) 49 (18) 64 := ⟨by decide +kernel, rfl, by decide⟩
theorem d_M_command_49 : xk_d c_M_command 49 (.aload_n 0) 1 50 := ⟨by decide +kernel, rfl⟩
theorem d_M_command_50 : xk_d c_M_command 50 (.iload 4) 2 52 := ⟨by decide +kernel, rfl⟩
theorem d_M_command_52 : xk_d c_M_command 52 (.invokevirtual 104) 3 55 := ⟨by decide +kernel, rfl⟩
theorem d_M_command_55 : xk_b c_M_command 55 (.ifCond .eq 13) 58 (13) 68 := ⟨by decide +kernel, rfl, by decide⟩
theorem d_M_command_58 : xk_d c_M_command 58 (.iload 4) 2 60 := ⟨by decide +kernel, rfl⟩
theorem d_M_command_60 : xk_d c_M_command 60 (.iload_n 2) 1 61 := ⟨by decide +kernel, rfl⟩
theorem d_M_command_61 : xk_b c_M_command 61 (.if_icmp .eq 7) 64 (7) 68 := ⟨by decide +kernel, rfl, by decide⟩
theorem d_M_command_64 : xk_d c_M_command 64 (.iconst 1) 1 65 := ⟨by decide +kernel, rfl⟩
theorem d_M_command_65 : xk_b c_M_command 65 (.goto 4) 68 (4) 69 := ⟨by decide +kernel, rfl, by decide⟩
theorem d_M_command_68 : xk_d c_M_command 68 (.iconst 0) 1 69 := ⟨by decide +kernel, rfl⟩
theorem d_M_command_69 : xk_d c_M_command 69 (.istore 5) 2 71 := ⟨by decide +kernel, rfl⟩
theorem d_M_command_71 : xk_d c_M_command 71 (.iload 5) 2 73 := ⟨by decide +kernel, rfl⟩
theorem d_M_command_73 : xk_b c_M_command 73 (.ifCond .ne 5) 76 (5) 78 := ⟨by decide +kernel, rfl, by decide⟩
theorem d_M_command_76 : xk_d c_M_command 76 (.iconst (-1)) 1 77 := ⟨by decide +kernel, rfl⟩
theorem d_M_command_77 : xk_d c_M_command 77 (.ireturn) 1 78 := ⟨by decide +kernel, rfl⟩
theorem d_M_command_78 : xk_d c_M_command 78 (.aload_n 0) 1 79 := ⟨by decide +kernel, rfl⟩
theorem d_M_command_79 : xk_d c_M_command 79 (.getfield 93) 3 82 := ⟨by decide +kernel, rfl⟩
theorem d_M_command_82 : xk_b c_M_command 82 (.ifCond .eq 11) 85 (11) 93 := ⟨by decide +kernel, rfl, by decide⟩
theorem d_M_command_85 : xk_d c_M_command 85 (.iload_n 1) 1 86 := ⟨by decide +kernel, rfl⟩
theorem d_M_command_86 : xk_d c_M_command 86 (.aload_n 0) 1 87 := ⟨by decide +kernel, rfl⟩
theorem d_M_command_87 : xk_d c_M_command 87 (.getfield 107) 3 90 := ⟨by decide +kernel, rfl⟩
theorem d_M_command_90 : xk_b c_M_command 90 (.if_icmp .ge 6) 93 (6) 96 := ⟨by decide +kernel, rfl, by decide⟩
theorem d_M_command_93 : xk_d c_M_command 93 (.bipush (-3)) 2 95 := ⟨by decide +kernel, rfl⟩
theorem d_M_command_95 : xk_d c_M_command 95 (.ireturn) 1 96 := ⟨by decide +kernel, rfl⟩
theorem d_M_command_96 : xk_d c_M_command 96 (.aload_n 0) 1 97 := ⟨by decide +kernel, rfl⟩
theorem d_M_command_97 : xk_d c_M_command 97 (.getfield 110) 3 100 := ⟨by decide +kernel, rfl⟩
theorem d_M_command_100 : xk_d c_M_command 100 (.bipush 24) 2 102 := ⟨by decide +kernel, rfl⟩
theorem d_M_command_102 : xk_b c_M_command 102 (.if_icmp .ne 6) 105 (6) 108 := ⟨by decide +kernel, rfl, by decide⟩
theorem d_M_command_105 : xk_d c_M_command 105 (.bipush (-2)) 2 107 := ⟨by decide +kernel, rfl⟩
theorem d_M_command_107 : xk_d c_M_command 107 (.ireturn) 1 108 := ⟨by decide +kernel, rfl⟩
theorem d_M_command_108 : xk_d c_M_command 108 (.aload_n 0) 1 109 := ⟨by decide +kernel, rfl⟩
theorem d_M_command_109 : xk_d c_M_command 109 (.getfield 23) 3 112 := ⟨by decide +kernel, rfl⟩
theorem d_M_command_112 : xk_d c_M_command 112 (.aload_n 0) 1 113 := ⟨by decide +kernel, rfl⟩
theorem d_M_command_113 : xk_d c_M_command 113 (.getfield 110) 3 116 := ⟨by decide +kernel, rfl⟩
theorem d_M_command_116 : xk_d c_M_command 116 (.iload_n 1) 1 117 := ⟨by decide +kernel, rfl⟩
theorem d_M_command_117 : xk_d c_M_command 117 (.iastore) 1 118 := ⟨by decide +kernel, rfl⟩
theorem d_M_command_118 : xk_d c_M_command 118 (.aload_n 0) 1 119 := ⟨by decide +kernel, rfl⟩
theorem d_M_command_119 : xk_d c_M_command 119 (.getfield 26) 3 122 := ⟨by decide +kernel, rfl⟩
theorem d_M_command_122 : xk_d c_M_command 122 (.aload_n 0) 1 123 := ⟨by decide +kernel, rfl⟩
theorem d_M_command_123 : xk_d c_M_command 123 (.getfield 110) 3 126 := ⟨by decide +kernel, rfl⟩
theorem d_M_command_126 : xk_d c_M_command 126 (.iload_n 2) 1 127 := ⟨by decide +kernel, rfl⟩
theorem d_M_command_127 : xk_d c_M_command 127 (.iastore) 1 128 := ⟨by decide +kernel, rfl⟩
theorem d_M_command_128 : xk_d c_M_command 128 (.aload_n 0) 1 129 := ⟨by decide +kernel, rfl⟩
theorem d_M_command_129 : xk_d c_M_command 129 (.getfield 29) 3 132 := ⟨by decide +kernel, rfl⟩
theorem d_M_command_132 : xk_d c_M_command 132 (.aload_n 0) 1 133 := ⟨by decide +kernel, rfl⟩
theorem d_M_command_133 : xk_d c_M_command 133 (.getfield 110) 3 136 := ⟨by decide +kernel, rfl⟩
theorem d_M_command_136 : xk_d c_M_command 136 (.iload_n 3) 1 137 := ⟨by decide +kernel, rfl⟩
theorem d_M_command_137 : xk_d c_M_command 137 (.iastore) 1 138 := ⟨by decide +kernel, rfl⟩
theorem d_M_command_138 : xk_d c_M_command 138 (.aload_n 0) 1 139 := ⟨by decide +kernel, rfl⟩
theorem d_M_command_139 : xk_d c_M_command 139 (.getfield 32) 3 142 := ⟨by decide +kernel, rfl⟩
theorem d_M_command_142 : xk_d c_M_command 142 (.aload_n 0) 1 143 := ⟨by decide +kernel, rfl⟩
theorem d_M_command_143 : xk_d c_M_command 143 (.getfield 110) 3 146 := ⟨by decide +kernel, rfl⟩
theorem d_M_command_146 : xk_d c_M_command 146 (.iload_n 3) 1 147 := ⟨by decide +kernel, rfl⟩
theorem d_M_command_147 : xk_b c_M_command 147 (.ifCond .ne 7) 150 (7) 154 := ⟨by decide +kernel, rfl, by decide⟩
theorem d_M_command_150 : xk_d c_M_command 150 (.iconst 0) 1 151 := ⟨by decide +kernel, rfl⟩
theorem d_M_command_151 : xk_b c_M_command 151 (.goto 5) 154 (5) 156 := ⟨by decide +kernel, rfl, by decide⟩
theorem d_M_command_154 : xk_d c_M_command 154 (.iload 4) 2 156 := ⟨by decide +kernel, rfl⟩
theorem d_M_command_156 : xk_d c_M_command 156 (.iastore) 1 157 := ⟨by decide +kernel, rfl⟩
theorem d_M_command_157 : xk_d c_M_command 157 (.aload_n 0) 1 158 := ⟨by decide +kernel, rfl⟩
theorem d_M_command_158 : xk_d c_M_command 158 (.dup) 1 159 := ⟨by decide +kernel, rfl⟩
theorem d_M_command_159 : xk_d c_M_command 159 (.getfield 110) 3 162 := ⟨by decide +kernel, rfl⟩
theorem d_M_command_162 : xk_d c_M_command 162 (.iconst 1) 1 163 := ⟨by decide +kernel, rfl⟩
theorem d_M_command_163 : xk_d c_M_command 163 (.iadd) 1 164 := ⟨by decide +kernel, rfl⟩
theorem d_M_command_164 : xk_d c_M_command 164 (.putfield 110) 3 167 := ⟨by decide +kernel, rfl⟩
theorem d_M_command_167 : xk_d c_M_command 167 (.aload_n 0) 1 168 := ⟨by decide +kernel, rfl⟩
theorem d_M_command_168 : xk_d c_M_command 168 (.getfield 110) 3 171 := ⟨by decide +kernel, rfl⟩
theorem d_M_command_171 : xk_d c_M_command 171 (.iconst 1) 1 172 := ⟨by decide +kernel, rfl⟩
theorem d_M_command_172 : xk_d c_M_command 172 (.isub) 1 173 := ⟨by decide +kernel, rfl⟩
theorem d_M_command_173 : xk_d c_M_command 173 (.ireturn) 1 174 := ⟨by decide +kernel, rfl⟩
theorem d_M_forget_0 : xk_d c_M_forget 0 (.iload_n 1) 1 1 := ⟨by decide +kernel, rfl⟩
theorem d_M_forget_1 : xk_b c_M_forget 1 (.ifCond .lt 11) 4 (11) 12 := ⟨by decide +kernel, rfl, by decide⟩
theorem d_M_forget_4 : xk_d c_M_forget 4 (.iload_n 1) 1 5 := ⟨by decide +kernel, rfl⟩
theorem d_M_forget_5 : xk_d c_M_forget 5 (.aload_n 0) 1 6 := ⟨by decide +kernel, rfl⟩
theorem d_M_forget_6 : xk_d c_M_forget 6 (.getfield 110) 3 9 := ⟨by decide +kernel, rfl⟩
theorem d_M_forget_9 : xk_b c_M_forget 9 (.if_icmp .lt 5) 12 (5) 14 := ⟨by decide +kernel, rfl, by decide⟩
theorem d_M_forget_12 : xk_d c_M_forget 12 (.iconst 0) 1 13 := ⟨by decide +kernel, rfl⟩
theorem d_M_forget_13 : xk_d c_M_forget 13 (.ireturn) 1 14 := ⟨by decide +kernel, rfl⟩
theorem d_M_forget_14 : xk_d c_M_forget 14 (.aload_n 0) 1 15 := ⟨by decide +kernel, rfl⟩
theorem d_M_forget_15 : xk_d c_M_forget 15 (.dup) 1 16 := ⟨by decide +kernel, rfl⟩
theorem d_M_forget_16 : xk_d c_M_forget 16 (.getfield 110) 3 19 := ⟨by decide +kernel, rfl⟩
theorem d_M_forget_19 : xk_d c_M_forget 19 (.iconst 1) 1 20 := ⟨by decide +kernel, rfl⟩
theorem d_M_forget_20 : xk_d c_M_forget 20 (.isub) 1 21 := ⟨by decide +kernel, rfl⟩
theorem d_M_forget_21 : xk_d c_M_forget 21 (.putfield 110) 3 24 := ⟨by decide +kernel, rfl⟩
theorem d_M_forget_24 : xk_d c_M_forget 24 (.iload_n 1) 1 25 := ⟨by decide +kernel, rfl⟩
theorem d_M_forget_25 : xk_d c_M_forget 25 (.istore_n 2) 1 26 := ⟨by decide +kernel, rfl⟩
theorem d_M_forget_26 : xk_d c_M_forget 26 (.iload_n 2) 1 27 := ⟨by decide +kernel, rfl⟩
theorem d_M_forget_27 : xk_d c_M_forget 27 (.aload_n 0) 1 28 := ⟨by decide +kernel, rfl⟩
theorem d_M_forget_28 : xk_d c_M_forget 28 (.getfield 110) 3 31 := ⟨by decide +kernel, rfl⟩
theorem d_M_forget_31 : xk_b c_M_forget 31 (.if_icmp .ge 65) 34 (65) 96 := ⟨by decide +kernel, rfl, by decide⟩
theorem d_M_forget_34 : xk_d c_M_forget 34 (.aload_n 0) 1 35 := ⟨by decide +kernel, rfl⟩
theorem d_M_forget_35 : xk_d c_M_forget 35 (.getfield 23) 3 38 := ⟨by decide +kernel, rfl⟩
theorem d_M_forget_38 : xk_d c_M_forget 38 (.iload_n 2) 1 39 := ⟨by decide +kernel, rfl⟩
theorem d_M_forget_39 : xk_d c_M_forget 39 (.aload_n 0) 1 40 := ⟨by decide +kernel, rfl⟩
theorem d_M_forget_40 : xk_d c_M_forget 40 (.getfield 23) 3 43 := ⟨by decide +kernel, rfl⟩
theorem d_M_forget_43 : xk_d c_M_forget 43 (.iload_n 2) 1 44 := ⟨by decide +kernel, rfl⟩
theorem d_M_forget_44 : xk_d c_M_forget 44 (.iconst 1) 1 45 := ⟨by decide +kernel, rfl⟩
theorem d_M_forget_45 : xk_d c_M_forget 45 (.iadd) 1 46 := ⟨by decide +kernel, rfl⟩
theorem d_M_forget_46 : xk_d c_M_forget 46 (.iaload) 1 47 := ⟨by decide +kernel, rfl⟩
theorem d_M_forget_47 : xk_d c_M_forget 47 (.iastore) 1 48 := ⟨by decide +kernel, rfl⟩
theorem d_M_forget_48 : xk_d c_M_forget 48 (.aload_n 0) 1 49 := ⟨by decide +kernel, rfl⟩
theorem d_M_forget_49 : xk_d c_M_forget 49 (.getfield 26) 3 52 := ⟨by decide +kernel, rfl⟩
theorem d_M_forget_52 : xk_d c_M_forget 52 (.iload_n 2) 1 53 := ⟨by decide +kernel, rfl⟩
theorem d_M_forget_53 : xk_d c_M_forget 53 (.aload_n 0) 1 54 := ⟨by decide +kernel, rfl⟩
theorem d_M_forget_54 : xk_d c_M_forget 54 (.getfield 26) 3 57 := ⟨by decide +kernel, rfl⟩
theorem d_M_forget_57 : xk_d c_M_forget 57 (.iload_n 2) 1 58 := ⟨by decide +kernel, rfl⟩
theorem d_M_forget_58 : xk_d c_M_forget 58 (.iconst 1) 1 59 := ⟨by decide +kernel, rfl⟩
theorem d_M_forget_59 : xk_d c_M_forget 59 (.iadd) 1 60 := ⟨by decide +kernel, rfl⟩
theorem d_M_forget_60 : xk_d c_M_forget 60 (.iaload) 1 61 := ⟨by decide +kernel, rfl⟩
theorem d_M_forget_61 : xk_d c_M_forget 61 (.iastore) 1 62 := ⟨by decide +kernel, rfl⟩
theorem d_M_forget_62 : xk_d c_M_forget 62 (.aload_n 0) 1 63 := ⟨by decide +kernel, rfl⟩
theorem d_M_forget_63 : xk_d c_M_forget 63 (.getfield 29) 3 66 := ⟨by decide +kernel, rfl⟩
theorem d_M_forget_66 : xk_d c_M_forget 66 (.iload_n 2) 1 67 := ⟨by decide +kernel, rfl⟩
theorem d_M_forget_67 : xk_d c_M_forget 67 (.aload_n 0) 1 68 := ⟨by decide +kernel, rfl⟩
theorem d_M_forget_68 : xk_d c_M_forget 68 (.getfield 29) 3 71 := ⟨by decide +kernel, rfl⟩
theorem d_M_forget_71 : xk_d c_M_forget 71 (.iload_n 2) 1 72 := ⟨by decide +kernel, rfl⟩
theorem d_M_forget_72 : xk_d c_M_forget 72 (.iconst 1) 1 73 := ⟨by decide +kernel, rfl⟩
theorem d_M_forget_73 : xk_d c_M_forget 73 (.iadd) 1 74 := ⟨by decide +kernel, rfl⟩
theorem d_M_forget_74 : xk_d c_M_forget 74 (.iaload) 1 75 := ⟨by decide +kernel, rfl⟩
theorem d_M_forget_75 : xk_d c_M_forget 75 (.iastore) 1 76 := ⟨by decide +kernel, rfl⟩
theorem d_M_forget_76 : xk_d c_M_forget 76 (.aload_n 0) 1 77 := ⟨by decide +kernel, rfl⟩
theorem d_M_forget_77 : xk_d c_M_forget 77 (.getfield 32) 3 80 := ⟨by decide +kernel, rfl⟩
theorem d_M_forget_80 : xk_d c_M_forget 80 (.iload_n 2) 1 81 := ⟨by decide +kernel, rfl⟩
theorem d_M_forget_81 : xk_d c_M_forget 81 (.aload_n 0) 1 82 := ⟨by decide +kernel, rfl⟩
theorem d_M_forget_82 : xk_d c_M_forget 82 (.getfield 32) 3 85 := ⟨by decide +kernel, rfl⟩
theorem d_M_forget_85 : xk_d c_M_forget 85 (.iload_n 2) 1 86 := ⟨by decide +kernel, rfl⟩
theorem d_M_forget_86 : xk_d c_M_forget 86 (.iconst 1) 1 87 := ⟨by decide +kernel, rfl⟩
theorem d_M_forget_87 : xk_d c_M_forget 87 (.iadd) 1 88 := ⟨by decide +kernel, rfl⟩
theorem d_M_forget_88 : xk_d c_M_forget 88 (.iaload) 1 89 := ⟨by decide +kernel, rfl⟩
theorem d_M_forget_89 : xk_d c_M_forget 89 (.iastore) 1 90 := ⟨by decide +kernel, rfl⟩
theorem d_M_forget_90 : xk_d c_M_forget 90 (.iinc 2 1) 3 93 := ⟨by decide +kernel, rfl⟩
theorem d_M_forget_93 : xk_b c_M_forget 93 (.goto (-67)) 96 (-67) 26 := ⟨by decide +kernel, rfl, by decide⟩
theorem d_M_forget_96 : xk_d c_M_forget 96 (.iconst 1) 1 97 := ⟨by decide +kernel, rfl⟩
theorem d_M_forget_97 : xk_d c_M_forget 97 (.ireturn) 1 98 := ⟨by decide +kernel, rfl⟩
theorem d_M_beside_0 : xk_d c_M_beside 0 (.iload_n 0) 1 1 := ⟨by decide +kernel, rfl⟩
theorem d_M_beside_1 : xk_d c_M_beside 1 (.bipush 8) 2 3 := ⟨by decide +kernel, rfl⟩
theorem d_M_beside_3 : xk_d c_M_beside 3 (.irem) 1 4 := ⟨by decide +kernel, rfl⟩
theorem d_M_beside_4 : xk_d c_M_beside 4 (.istore_n 2) 1 5 := ⟨by decide +kernel, rfl⟩
theorem d_M_beside_5 : xk_d c_M_beside 5 (.iload_n 0) 1 6 := ⟨by decide +kernel, rfl⟩
theorem d_M_beside_6 : xk_d c_M_beside 6 (.bipush 8) 2 8 := ⟨by decide +kernel, rfl⟩
theorem d_M_beside_8 : xk_d c_M_beside 8 (.idiv) 1 9 := ⟨by decide +kernel, rfl⟩
theorem d_M_beside_9 : xk_d c_M_beside 9 (.istore_n 3) 1 10 := ⟨by decide +kernel, rfl⟩
theorem d_M_beside_10 : xk_d c_M_beside 10 (.iload_n 1) 1 11 := ⟨by decide +kernel, rfl⟩
theorem d_M_beside_11 : xk_b c_M_beside 11 (.ifCond .ne 16) 14 (16) 27 := ⟨by decide +kernel, rfl, by decide⟩
theorem d_M_beside_14 : xk_d c_M_beside 14 (.iload_n 3) 1 15 := ⟨by decide +kernel, rfl⟩
theorem d_M_beside_15 : xk_b c_M_beside 15 (.ifCond .le 10) 18 (10) 25 := ⟨by decide +kernel, rfl, by decide⟩
theorem d_M_beside_18 : xk_d c_M_beside 18 (.iload_n 0) 1 19 := ⟨by decide +kernel, rfl⟩
theorem d_M_beside_19 : xk_d c_M_beside 19 (.bipush 8) 2 21 := ⟨by decide +kernel, rfl⟩
theorem d_M_beside_21 : xk_d c_M_beside 21 (.isub) 1 22 := ⟨by decide +kernel, rfl⟩
theorem d_M_beside_22 : xk_b c_M_beside 22 (.goto 4) 25 (4) 26 := ⟨by decide +kernel, rfl, by decide⟩
theorem d_M_beside_25 : xk_d c_M_beside 25 (.iconst (-1)) 1 26 := ⟨by decide +kernel, rfl⟩
theorem d_M_beside_26 : xk_d c_M_beside 26 (.ireturn) 1 27 := ⟨by decide +kernel, rfl⟩
theorem d_M_beside_27 : xk_d c_M_beside 27 (.iload_n 1) 1 28 := ⟨by decide +kernel, rfl⟩
theorem d_M_beside_28 : xk_d c_M_beside 28 (.iconst 1) 1 29 := ⟨by decide +kernel, rfl⟩
theorem d_M_beside_29 : xk_b c_M_beside 29 (.if_icmp .ne 17) 32 (17) 46 := ⟨by decide +kernel, rfl, by decide⟩
theorem d_M_beside_32 : xk_d c_M_beside 32 (.iload_n 2) 1 33 := ⟨by decide +kernel, rfl⟩
theorem d_M_beside_33 : xk_d c_M_beside 33 (.bipush 7) 2 35 := ⟨by decide +kernel, rfl⟩
theorem d_M_beside_35 : xk_b c_M_beside 35 (.if_icmp .ge 9) 38 (9) 44 := ⟨by decide +kernel, rfl, by decide⟩
theorem d_M_beside_38 : xk_d c_M_beside 38 (.iload_n 0) 1 39 := ⟨by decide +kernel, rfl⟩
theorem d_M_beside_39 : xk_d c_M_beside 39 (.iconst 1) 1 40 := ⟨by decide +kernel, rfl⟩
theorem d_M_beside_40 : xk_d c_M_beside 40 (.iadd) 1 41 := ⟨by decide +kernel, rfl⟩
theorem d_M_beside_41 : xk_b c_M_beside 41 (.goto 4) 44 (4) 45 := ⟨by decide +kernel, rfl, by decide⟩
theorem d_M_beside_44 : xk_d c_M_beside 44 (.iconst (-1)) 1 45 := ⟨by decide +kernel, rfl⟩
theorem d_M_beside_45 : xk_d c_M_beside 45 (.ireturn) 1 46 := ⟨by decide +kernel, rfl⟩
theorem d_M_beside_46 : xk_d c_M_beside 46 (.iload_n 1) 1 47 := ⟨by decide +kernel, rfl⟩
theorem d_M_beside_47 : xk_d c_M_beside 47 (.iconst 2) 1 48 := ⟨by decide +kernel, rfl⟩
theorem d_M_beside_48 : xk_b c_M_beside 48 (.if_icmp .ne 18) 51 (18) 66 := ⟨by decide +kernel, rfl, by decide⟩
theorem d_M_beside_51 : xk_d c_M_beside 51 (.iload_n 3) 1 52 := ⟨by decide +kernel, rfl⟩
theorem d_M_beside_52 : xk_d c_M_beside 52 (.bipush 7) 2 54 := ⟨by decide +kernel, rfl⟩
theorem d_M_beside_54 : xk_b c_M_beside 54 (.if_icmp .ge 10) 57 (10) 64 := ⟨by decide +kernel, rfl, by decide⟩
theorem d_M_beside_57 : xk_d c_M_beside 57 (.iload_n 0) 1 58 := ⟨by decide +kernel, rfl⟩
theorem d_M_beside_58 : xk_d c_M_beside 58 (.bipush 8) 2 60 := ⟨by decide +kernel, rfl⟩
theorem d_M_beside_60 : xk_d c_M_beside 60 (.iadd) 1 61 := ⟨by decide +kernel, rfl⟩
theorem d_M_beside_61 : xk_b c_M_beside 61 (.goto 4) 64 (4) 65 := ⟨by decide +kernel, rfl, by decide⟩
theorem d_M_beside_64 : xk_d c_M_beside 64 (.iconst (-1)) 1 65 := ⟨by decide +kernel, rfl⟩
theorem d_M_beside_65 : xk_d c_M_beside 65 (.ireturn) 1 66 := ⟨by decide +kernel, rfl⟩
theorem d_M_beside_66 : xk_d c_M_beside 66 (.iload_n 2) 1 67 := ⟨by decide +kernel, rfl⟩
theorem d_M_beside_67 : xk_b c_M_beside 67 (.ifCond .le 9) 70 (9) 76 := ⟨by decide +kernel, rfl, by decide⟩
theorem d_M_beside_70 : xk_d c_M_beside 70 (.iload_n 0) 1 71 := ⟨by decide +kernel, rfl⟩
theorem d_M_beside_71 : xk_d c_M_beside 71 (.iconst 1) 1 72 := ⟨by decide +kernel, rfl⟩
theorem d_M_beside_72 : xk_d c_M_beside 72 (.isub) 1 73 := ⟨by decide +kernel, rfl⟩
theorem d_M_beside_73 : xk_b c_M_beside 73 (.goto 4) 76 (4) 77 := ⟨by decide +kernel, rfl, by decide⟩
theorem d_M_beside_76 : xk_d c_M_beside 76 (.iconst (-1)) 1 77 := ⟨by decide +kernel, rfl⟩
theorem d_M_beside_77 : xk_d c_M_beside 77 (.ireturn) 1 78 := ⟨by decide +kernel, rfl⟩
theorem d_M_distance_0 : xk_d c_M_distance 0 (.iload_n 0) 1 1 := ⟨by decide +kernel, rfl⟩
theorem d_M_distance_1 : xk_d c_M_distance 1 (.bipush 8) 2 3 := ⟨by decide +kernel, rfl⟩
theorem d_M_distance_3 : xk_d c_M_distance 3 (.irem) 1 4 := ⟨by decide +kernel, rfl⟩
theorem d_M_distance_4 : xk_d c_M_distance 4 (.iload_n 1) 1 5 := ⟨by decide +kernel, rfl⟩
theorem d_M_distance_5 : xk_d c_M_distance 5 (.bipush 8) 2 7 := ⟨by decide +kernel, rfl⟩
theorem d_M_distance_7 : xk_d c_M_distance 7 (.irem) 1 8 := ⟨by decide +kernel, rfl⟩
theorem d_M_distance_8 : xk_d c_M_distance 8 (.isub) 1 9 := ⟨by decide +kernel, rfl⟩
theorem d_M_distance_9 : xk_d c_M_distance 9 (.istore_n 2) 1 10 := ⟨by decide +kernel, rfl⟩
theorem d_M_distance_10 : xk_d c_M_distance 10 (.iload_n 0) 1 11 := ⟨by decide +kernel, rfl⟩
theorem d_M_distance_11 : xk_d c_M_distance 11 (.bipush 8) 2 13 := ⟨by decide +kernel, rfl⟩
theorem d_M_distance_13 : xk_d c_M_distance 13 (.idiv) 1 14 := ⟨by decide +kernel, rfl⟩
theorem d_M_distance_14 : xk_d c_M_distance 14 (.iload_n 1) 1 15 := ⟨by decide +kernel, rfl⟩
theorem d_M_distance_15 : xk_d c_M_distance 15 (.bipush 8) 2 17 := ⟨by decide +kernel, rfl⟩
theorem d_M_distance_17 : xk_d c_M_distance 17 (.idiv) 1 18 := ⟨by decide +kernel, rfl⟩
theorem d_M_distance_18 : xk_d c_M_distance 18 (.isub) 1 19 := ⟨by decide +kernel, rfl⟩
theorem d_M_distance_19 : xk_d c_M_distance 19 (.istore_n 3) 1 20 := ⟨by decide +kernel, rfl⟩
theorem d_M_distance_20 : xk_d c_M_distance 20 (.iload_n 2) 1 21 := ⟨by decide +kernel, rfl⟩
theorem d_M_distance_21 : xk_b c_M_distance 21 (.ifCond .ge 8) 24 (8) 29 := ⟨by decide +kernel, rfl, by decide⟩
theorem d_M_distance_24 : xk_d c_M_distance 24 (.iload_n 2) 1 25 := ⟨by decide +kernel, rfl⟩
theorem d_M_distance_25 : xk_d c_M_distance 25 (.ineg) 1 26 := ⟨by decide +kernel, rfl⟩
theorem d_M_distance_26 : xk_b c_M_distance 26 (.goto 4) 29 (4) 30 := ⟨by decide +kernel, rfl, by decide⟩
theorem d_M_distance_29 : xk_d c_M_distance 29 (.iload_n 2) 1 30 := ⟨by decide +kernel, rfl⟩
theorem d_M_distance_30 : xk_d c_M_distance 30 (.iload_n 3) 1 31 := ⟨by decide +kernel, rfl⟩
theorem d_M_distance_31 : xk_b c_M_distance 31 (.ifCond .ge 8) 34 (8) 39 := ⟨by decide +kernel, rfl, by decide⟩
theorem d_M_distance_34 : xk_d c_M_distance 34 (.iload_n 3) 1 35 := ⟨by decide +kernel, rfl⟩
theorem d_M_distance_35 : xk_d c_M_distance 35 (.ineg) 1 36 := ⟨by decide +kernel, rfl⟩
theorem d_M_distance_36 : xk_b c_M_distance 36 (.goto 4) 39 (4) 40 := ⟨by decide +kernel, rfl, by decide⟩
theorem d_M_distance_39 : xk_d c_M_distance 39 (.iload_n 3) 1 40 := ⟨by decide +kernel, rfl⟩
theorem d_M_distance_40 : xk_d c_M_distance 40 (.iadd) 1 41 := ⟨by decide +kernel, rfl⟩
theorem d_M_distance_41 : xk_d c_M_distance 41 (.ireturn) 1 42 := ⟨by decide +kernel, rfl⟩
theorem d_M_find_0 : xk_d c_M_find 0 (.iconst 0) 1 1 := ⟨by decide +kernel, rfl⟩
theorem d_M_find_1 : xk_d c_M_find 1 (.istore 4) 2 3 := ⟨by decide +kernel, rfl⟩
theorem d_M_find_3 : xk_d c_M_find 3 (.iload 4) 2 5 := ⟨by decide +kernel, rfl⟩
theorem d_M_find_5 : xk_d c_M_find 5 (.bipush 64) 2 7 := ⟨by decide +kernel, rfl⟩
theorem d_M_find_7 : xk_b c_M_find 7 (.if_icmp .ge 17) 10 (17) 24 := ⟨by decide +kernel, rfl, by decide⟩
theorem d_M_find_10 : xk_d c_M_find 10 (.aload_n 0) 1 11 := ⟨by decide +kernel, rfl⟩
theorem d_M_find_11 : xk_d c_M_find 11 (.getfield 80) 3 14 := ⟨by decide +kernel, rfl⟩
theorem d_M_find_14 : xk_d c_M_find 14 (.iload 4) 2 16 := ⟨by decide +kernel, rfl⟩
theorem d_M_find_16 : xk_d c_M_find 16 (.iconst (-1)) 1 17 := ⟨by decide +kernel, rfl⟩
theorem d_M_find_17 : xk_d c_M_find 17 (.iastore) 1 18 := ⟨by decide +kernel, rfl⟩
theorem d_M_find_18 : xk_d c_M_find 18 (.iinc 4 1) 3 21 := ⟨by decide +kernel, rfl⟩
theorem d_M_find_21 : xk_b c_M_find 21 (.goto (-18)) 24 (-18) 3 := ⟨by decide +kernel, rfl, by decide⟩
theorem d_M_find_24 : xk_d c_M_find 24 (.aload_n 0) 1 25 := ⟨by decide +kernel, rfl⟩
theorem d_M_find_25 : xk_d c_M_find 25 (.getfield 80) 3 28 := ⟨by decide +kernel, rfl⟩
theorem d_M_find_28 : xk_d c_M_find 28 (.iload_n 1) 1 29 := ⟨by decide +kernel, rfl⟩
theorem d_M_find_29 : xk_d c_M_find 29 (.iload_n 1) 1 30 := ⟨by decide +kernel, rfl⟩
theorem d_M_find_30 : xk_d c_M_find 30 (.iastore) 1 31 := ⟨by decide +kernel, rfl⟩
theorem d_M_find_31 : xk_d c_M_find 31 (.aload_n 0) 1 32 := ⟨by decide +kernel, rfl⟩
theorem d_M_find_32 : xk_d c_M_find 32 (.getfield 77) 3 35 := ⟨by decide +kernel, rfl⟩
theorem d_M_find_35 : xk_d c_M_find 35 (.iconst 0) 1 36 := ⟨by decide +kernel, rfl⟩
theorem d_M_find_36 : xk_d c_M_find 36 (.iload_n 1) 1 37 := ⟨by decide +kernel, rfl⟩
theorem d_M_find_37 : xk_d c_M_find 37 (.iastore) 1 38 := ⟨by decide +kernel, rfl⟩
theorem d_M_find_38 : xk_d c_M_find 38 (.iconst 1) 1 39 := ⟨by decide +kernel, rfl⟩
theorem d_M_find_39 : xk_d c_M_find 39 (.istore 4) 2 41 := ⟨by decide +kernel, rfl⟩
theorem d_M_find_41 : xk_d c_M_find 41 (.iconst 0) 1 42 := ⟨by decide +kernel, rfl⟩
theorem d_M_find_42 : xk_d c_M_find 42 (.istore 5) 2 44 := ⟨by decide +kernel, rfl⟩
theorem d_M_find_44 : xk_d c_M_find 44 (.iload 5) 2 46 := ⟨by decide +kernel, rfl⟩
theorem d_M_find_46 : xk_d c_M_find 46 (.iload 4) 2 48 := ⟨by decide +kernel, rfl⟩
theorem d_M_find_48 : xk_b c_M_find 48 (.if_icmp .ge 117) 51 (117) 165 := ⟨by decide +kernel, rfl, by decide⟩
theorem d_M_find_51 : xk_d c_M_find 51 (.aload_n 0) 1 52 := ⟨by decide +kernel, rfl⟩
theorem d_M_find_52 : xk_d c_M_find 52 (.getfield 80) 3 55 := ⟨by decide +kernel, rfl⟩
theorem d_M_find_55 : xk_d c_M_find 55 (.iload_n 2) 1 56 := ⟨by decide +kernel, rfl⟩
theorem d_M_find_56 : xk_d c_M_find 56 (.iaload) 1 57 := ⟨by decide +kernel, rfl⟩
theorem d_M_find_57 : xk_b c_M_find 57 (.ifCond .ge 108) 60 (108) 165 := ⟨by decide +kernel, rfl, by decide⟩
theorem d_M_find_60 : xk_d c_M_find 60 (.iconst 0) 1 61 := ⟨by decide +kernel, rfl⟩
theorem d_M_find_61 : xk_d c_M_find 61 (.istore 6) 2 63 := ⟨by decide +kernel, rfl⟩
theorem d_M_find_63 : xk_d c_M_find 63 (.iload 6) 2 65 := ⟨by decide +kernel, rfl⟩
theorem d_M_find_65 : xk_d c_M_find 65 (.iconst 4) 1 66 := ⟨by decide +kernel, rfl⟩
theorem d_M_find_66 : xk_b c_M_find 66 (.if_icmp .ge 93) 69 (93) 159 := ⟨by decide +kernel, rfl, by decide⟩
theorem d_M_find_69 : xk_d c_M_find 69 (.aload_n 0) 1 70 := ⟨by decide +kernel, rfl⟩
theorem d_M_find_70 : xk_d c_M_find 70 (.getfield 77) 3 73 := ⟨by decide +kernel, rfl⟩
theorem d_M_find_73 : xk_d c_M_find 73 (.iload 5) 2 75 := ⟨by decide +kernel, rfl⟩
theorem d_M_find_75 : xk_d c_M_find 75 (.iaload) 1 76 := ⟨by decide +kernel, rfl⟩
theorem d_M_find_76 : xk_d c_M_find 76 (.iload 6) 2 78 := ⟨by decide +kernel, rfl⟩
theorem d_M_find_78 : xk_d c_M_find 78 (.invokestatic 113) 3 81 := ⟨by decide +kernel, rfl⟩
theorem d_M_find_81 : xk_d c_M_find 81 (.istore 7) 2 83 := ⟨by decide +kernel, rfl⟩
theorem d_M_find_83 : xk_d c_M_find 83 (.iload 7) 2 85 := ⟨by decide +kernel, rfl⟩
theorem d_M_find_85 : xk_b c_M_find 85 (.ifCond .lt 68) 88 (68) 153 := ⟨by decide +kernel, rfl, by decide⟩
theorem d_M_find_88 : xk_d c_M_find 88 (.aload_n 0) 1 89 := ⟨by decide +kernel, rfl⟩
end
section
/-! decode rows -/
theorem d_M_find_89 : xk_d c_M_find 89 (.getfield 80) 3 92 := ⟨by decide +kernel, rfl⟩
theorem d_M_find_92 : xk_d c_M_find 92 (.iload 7) 2 94 := ⟨by decide +kernel, rfl⟩
theorem d_M_find_94 : xk_d c_M_find 94 (.iaload) 1 95 := ⟨by decide +kernel, rfl⟩
theorem d_M_find_95 : xk_b c_M_find 95 (.ifCond .ge 58) 98 (58) 153 := ⟨by decide +kernel, rfl, by decide⟩
theorem d_M_find_98 : xk_d c_M_find 98 (.aload_n 0) 1 99 := ⟨by decide +kernel, rfl⟩
theorem d_M_find_99 : xk_d c_M_find 99 (.getfield 7) 3 102 := ⟨by decide +kernel, rfl⟩
theorem d_M_find_102 : xk_d c_M_find 102 (.iload 7) 2 104 := ⟨by decide +kernel, rfl⟩
theorem d_M_find_104 : xk_d c_M_find 104 (.baload) 1 105 := ⟨by decide +kernel, rfl⟩
theorem d_M_find_105 : xk_b c_M_find 105 (.ifCond .ne 48) 108 (48) 153 := ⟨by decide +kernel, rfl, by decide⟩
theorem d_M_find_108 : xk_d c_M_find 108 (.iload 7) 2 110 := ⟨by decide +kernel, rfl⟩
theorem d_M_find_110 : xk_d c_M_find 110 (.iload_n 2) 1 111 := ⟨by decide +kernel, rfl⟩
theorem d_M_find_111 : xk_b c_M_find 111 (.if_icmp .eq 16) 114 (16) 127 := ⟨by decide +kernel, rfl, by decide⟩
theorem d_M_find_114 : xk_d c_M_find 114 (.iload_n 3) 1 115 := ⟨by decide +kernel, rfl⟩
theorem d_M_find_115 : xk_b c_M_find 115 (.ifCond .eq 12) 118 (12) 127 := ⟨by decide +kernel, rfl, by decide⟩
theorem d_M_find_118 : xk_d c_M_find 118 (.aload_n 0) 1 119 := ⟨by decide +kernel, rfl⟩
theorem d_M_find_119 : xk_d c_M_find 119 (.iload 7) 2 121 := ⟨by decide +kernel, rfl⟩
theorem d_M_find_121 : xk_d c_M_find 121 (.invokevirtual 101) 3 124 := ⟨by decide +kernel, rfl⟩
theorem d_M_find_124 : xk_b c_M_find 124 (.ifCond .ne 29) 127 (29) 153 := ⟨by decide +kernel, rfl, by decide⟩
theorem d_M_find_127 : xk_d c_M_find 127 (.aload_n 0) 1 128 := ⟨by decide +kernel, rfl⟩
theorem d_M_find_128 : xk_d c_M_find 128 (.getfield 80) 3 131 := ⟨by decide +kernel, rfl⟩
theorem d_M_find_131 : xk_d c_M_find 131 (.iload 7) 2 133 := ⟨by decide +kernel, rfl⟩
theorem d_M_find_133 : xk_d c_M_find 133 (.aload_n 0) 1 134 := ⟨by decide +kernel, rfl⟩
theorem d_M_find_134 : xk_d c_M_find 134 (.getfield 77) 3 137 := ⟨by decide +kernel, rfl⟩
theorem d_M_find_137 : xk_d c_M_find 137 (.iload 5) 2 139 := ⟨by decide +kernel, rfl⟩
theorem d_M_find_139 : xk_d c_M_find 139 (.iaload) 1 140 := ⟨by decide +kernel, rfl⟩
theorem d_M_find_140 : xk_d c_M_find 140 (.iastore) 1 141 := ⟨by decide +kernel, rfl⟩
theorem d_M_find_141 : xk_d c_M_find 141 (.aload_n 0) 1 142 := ⟨by decide +kernel, rfl⟩
theorem d_M_find_142 : xk_d c_M_find 142 (.getfield 77) 3 145 := ⟨by decide +kernel, rfl⟩
theorem d_M_find_145 : xk_d c_M_find 145 (.iload 4) 2 147 := ⟨by decide +kernel, rfl⟩
theorem d_M_find_147 : xk_d c_M_find 147 (.iload 7) 2 149 := ⟨by decide +kernel, rfl⟩
theorem d_M_find_149 : xk_d c_M_find 149 (.iastore) 1 150 := ⟨by decide +kernel, rfl⟩
theorem d_M_find_150 : xk_d c_M_find 150 (.iinc 4 1) 3 153 := ⟨by decide +kernel, rfl⟩
theorem d_M_find_153 : xk_d c_M_find 153 (.iinc 6 1) 3 156 := ⟨by decide +kernel, rfl⟩
theorem d_M_find_156 : xk_b c_M_find 156 (.goto (-93)) 159 (-93) 63 := ⟨by decide +kernel, rfl, by decide⟩
theorem d_M_find_159 : xk_d c_M_find 159 (.iinc 5 1) 3 162 := ⟨by decide +kernel, rfl⟩
theorem d_M_find_162 : xk_b c_M_find 162 (.goto (-118)) 165 (-118) 44 := ⟨by decide +kernel, rfl, by decide⟩
theorem d_M_find_165 : xk_d c_M_find 165 (.aload_n 0) 1 166 := ⟨by decide +kernel, rfl⟩
theorem d_M_find_166 : xk_d c_M_find 166 (.getfield 80) 3 169 := ⟨by decide +kernel, rfl⟩
theorem d_M_find_169 : xk_d c_M_find 169 (.iload_n 2) 1 170 := ⟨by decide +kernel, rfl⟩
theorem d_M_find_170 : xk_d c_M_find 170 (.iaload) 1 171 := ⟨by decide +kernel, rfl⟩
theorem d_M_find_171 : xk_b c_M_find 171 (.ifCond .ge 5) 174 (5) 176 := ⟨by decide +kernel, rfl, by decide⟩
theorem d_M_find_174 : xk_d c_M_find 174 (.iconst 0) 1 175 := ⟨by decide +kernel, rfl⟩
theorem d_M_find_175 : xk_d c_M_find 175 (.ireturn) 1 176 := ⟨by decide +kernel, rfl⟩
theorem d_M_find_176 : xk_d c_M_find 176 (.iconst 0) 1 177 := ⟨by decide +kernel, rfl⟩
theorem d_M_find_177 : xk_d c_M_find 177 (.istore 5) 2 179 := ⟨by decide +kernel, rfl⟩
theorem d_M_find_179 : xk_d c_M_find 179 (.iload_n 2) 1 180 := ⟨by decide +kernel, rfl⟩
theorem d_M_find_180 : xk_d c_M_find 180 (.istore 6) 2 182 := ⟨by decide +kernel, rfl⟩
theorem d_M_find_182 : xk_d c_M_find 182 (.iload 6) 2 184 := ⟨by decide +kernel, rfl⟩
theorem d_M_find_184 : xk_d c_M_find 184 (.iload_n 1) 1 185 := ⟨by decide +kernel, rfl⟩
theorem d_M_find_185 : xk_b c_M_find 185 (.if_icmp .eq 18) 188 (18) 203 := ⟨by decide +kernel, rfl, by decide⟩
theorem d_M_find_188 : xk_d c_M_find 188 (.iinc 5 1) 3 191 := ⟨by decide +kernel, rfl⟩
theorem d_M_find_191 : xk_d c_M_find 191 (.aload_n 0) 1 192 := ⟨by decide +kernel, rfl⟩
theorem d_M_find_192 : xk_d c_M_find 192 (.getfield 80) 3 195 := ⟨by decide +kernel, rfl⟩
theorem d_M_find_195 : xk_d c_M_find 195 (.iload 6) 2 197 := ⟨by decide +kernel, rfl⟩
theorem d_M_find_197 : xk_d c_M_find 197 (.iaload) 1 198 := ⟨by decide +kernel, rfl⟩
theorem d_M_find_198 : xk_d c_M_find 198 (.istore 6) 2 200 := ⟨by decide +kernel, rfl⟩
theorem d_M_find_200 : xk_b c_M_find 200 (.goto (-18)) 203 (-18) 182 := ⟨by decide +kernel, rfl, by decide⟩
theorem d_M_find_203 : xk_d c_M_find 203 (.iload 5) 2 205 := ⟨by decide +kernel, rfl⟩
theorem d_M_find_205 : xk_d c_M_find 205 (.istore 6) 2 207 := ⟨by decide +kernel, rfl⟩
theorem d_M_find_207 : xk_d c_M_find 207 (.iload_n 2) 1 208 := ⟨by decide +kernel, rfl⟩
theorem d_M_find_208 : xk_d c_M_find 208 (.istore 7) 2 210 := ⟨by decide +kernel, rfl⟩
theorem d_M_find_210 : xk_d c_M_find 210 (.iload 7) 2 212 := ⟨by decide +kernel, rfl⟩
theorem d_M_find_212 : xk_d c_M_find 212 (.iload_n 1) 1 213 := ⟨by decide +kernel, rfl⟩
theorem d_M_find_213 : xk_b c_M_find 213 (.if_icmp .eq 27) 216 (27) 240 := ⟨by decide +kernel, rfl, by decide⟩
theorem d_M_find_216 : xk_d c_M_find 216 (.iinc 6 (-1)) 3 219 := ⟨by decide +kernel, rfl⟩
theorem d_M_find_219 : xk_d c_M_find 219 (.aload_n 0) 1 220 := ⟨by decide +kernel, rfl⟩
theorem d_M_find_220 : xk_d c_M_find 220 (.getfield 83) 3 223 := ⟨by decide +kernel, rfl⟩
theorem d_M_find_223 : xk_d c_M_find 223 (.iload 6) 2 225 := ⟨by decide +kernel, rfl⟩
theorem d_M_find_225 : xk_d c_M_find 225 (.iload 7) 2 227 := ⟨by decide +kernel, rfl⟩
theorem d_M_find_227 : xk_d c_M_find 227 (.iastore) 1 228 := ⟨by decide +kernel, rfl⟩
theorem d_M_find_228 : xk_d c_M_find 228 (.aload_n 0) 1 229 := ⟨by decide +kernel, rfl⟩
theorem d_M_find_229 : xk_d c_M_find 229 (.getfield 80) 3 232 := ⟨by decide +kernel, rfl⟩
theorem d_M_find_232 : xk_d c_M_find 232 (.iload 7) 2 234 := ⟨by decide +kernel, rfl⟩
theorem d_M_find_234 : xk_d c_M_find 234 (.iaload) 1 235 := ⟨by decide +kernel, rfl⟩
theorem d_M_find_235 : xk_d c_M_find 235 (.istore 7) 2 237 := ⟨by decide +kernel, rfl⟩
theorem d_M_find_237 : xk_b c_M_find 237 (.goto (-27)) 240 (-27) 210 := ⟨by decide +kernel, rfl, by decide⟩
theorem d_M_find_240 : xk_d c_M_find 240 (.iload 5) 2 242 := ⟨by decide +kernel, rfl⟩
theorem d_M_find_242 : xk_d c_M_find 242 (.ireturn) 1 243 := ⟨by decide +kernel, rfl⟩
theorem d_M_take_0 : xk_d c_M_take 0 (.iconst 0) 1 1 := ⟨by decide +kernel, rfl⟩
theorem d_M_take_1 : xk_d c_M_take 1 (.istore_n 3) 1 2 := ⟨by decide +kernel, rfl⟩
theorem d_M_take_2 : xk_d c_M_take 2 (.iload_n 3) 1 3 := ⟨by decide +kernel, rfl⟩
theorem d_M_take_3 : xk_d c_M_take 3 (.iload_n 2) 1 4 := ⟨by decide +kernel, rfl⟩
theorem d_M_take_4 : xk_b c_M_take 4 (.if_icmp .ge 26) 7 (26) 30 := ⟨by decide +kernel, rfl, by decide⟩
theorem d_M_take_7 : xk_d c_M_take 7 (.aload_n 0) 1 8 := ⟨by decide +kernel, rfl⟩
theorem d_M_take_8 : xk_d c_M_take 8 (.getfield 50) 3 11 := ⟨by decide +kernel, rfl⟩
theorem d_M_take_11 : xk_d c_M_take 11 (.bipush 64) 2 13 := ⟨by decide +kernel, rfl⟩
theorem d_M_take_13 : xk_d c_M_take 13 (.iload_n 1) 1 14 := ⟨by decide +kernel, rfl⟩
theorem d_M_take_14 : xk_d c_M_take 14 (.imul) 1 15 := ⟨by decide +kernel, rfl⟩
theorem d_M_take_15 : xk_d c_M_take 15 (.iload_n 3) 1 16 := ⟨by decide +kernel, rfl⟩
theorem d_M_take_16 : xk_d c_M_take 16 (.iadd) 1 17 := ⟨by decide +kernel, rfl⟩
theorem d_M_take_17 : xk_d c_M_take 17 (.aload_n 0) 1 18 := ⟨by decide +kernel, rfl⟩
theorem d_M_take_18 : xk_d c_M_take 18 (.getfield 83) 3 21 := ⟨by decide +kernel, rfl⟩
theorem d_M_take_21 : xk_d c_M_take 21 (.iload_n 3) 1 22 := ⟨by decide +kernel, rfl⟩
theorem d_M_take_22 : xk_d c_M_take 22 (.iaload) 1 23 := ⟨by decide +kernel, rfl⟩
theorem d_M_take_23 : xk_d c_M_take 23 (.iastore) 1 24 := ⟨by decide +kernel, rfl⟩
theorem d_M_take_24 : xk_d c_M_take 24 (.iinc 3 1) 3 27 := ⟨by decide +kernel, rfl⟩
theorem d_M_take_27 : xk_b c_M_take 27 (.goto (-25)) 30 (-25) 2 := ⟨by decide +kernel, rfl, by decide⟩
theorem d_M_take_30 : xk_d c_M_take 30 (.aload_n 0) 1 31 := ⟨by decide +kernel, rfl⟩
theorem d_M_take_31 : xk_d c_M_take 31 (.getfield 53) 3 34 := ⟨by decide +kernel, rfl⟩
theorem d_M_take_34 : xk_d c_M_take 34 (.iload_n 1) 1 35 := ⟨by decide +kernel, rfl⟩
theorem d_M_take_35 : xk_d c_M_take 35 (.iload_n 2) 1 36 := ⟨by decide +kernel, rfl⟩
theorem d_M_take_36 : xk_d c_M_take 36 (.iastore) 1 37 := ⟨by decide +kernel, rfl⟩
theorem d_M_take_37 : xk_d c_M_take 37 (.return_) 1 38 := ⟨by decide +kernel, rfl⟩
theorem d_M_steps_0 : xk_d c_M_steps 0 (.iload_n 1) 1 1 := ⟨by decide +kernel, rfl⟩
theorem d_M_steps_1 : xk_d c_M_steps 1 (.invokestatic 97) 3 4 := ⟨by decide +kernel, rfl⟩
theorem d_M_steps_4 : xk_b c_M_steps 4 (.ifCond .eq 28) 7 (28) 32 := ⟨by decide +kernel, rfl, by decide⟩
theorem d_M_steps_7 : xk_d c_M_steps 7 (.iload_n 2) 1 8 := ⟨by decide +kernel, rfl⟩
theorem d_M_steps_8 : xk_d c_M_steps 8 (.invokestatic 97) 3 11 := ⟨by decide +kernel, rfl⟩
theorem d_M_steps_11 : xk_b c_M_steps 11 (.ifCond .eq 21) 14 (21) 32 := ⟨by decide +kernel, rfl, by decide⟩
theorem d_M_steps_14 : xk_d c_M_steps 14 (.aload_n 0) 1 15 := ⟨by decide +kernel, rfl⟩
theorem d_M_steps_15 : xk_d c_M_steps 15 (.getfield 7) 3 18 := ⟨by decide +kernel, rfl⟩
theorem d_M_steps_18 : xk_d c_M_steps 18 (.iload_n 1) 1 19 := ⟨by decide +kernel, rfl⟩
theorem d_M_steps_19 : xk_d c_M_steps 19 (.baload) 1 20 := ⟨by decide +kernel, rfl⟩
theorem d_M_steps_20 : xk_b c_M_steps 20 (.ifCond .ne 12) 23 (12) 32 := ⟨by decide +kernel, rfl, by decide⟩
theorem d_M_steps_23 : xk_d c_M_steps 23 (.aload_n 0) 1 24 := ⟨by decide +kernel, rfl⟩
theorem d_M_steps_24 : xk_d c_M_steps 24 (.getfield 7) 3 27 := ⟨by decide +kernel, rfl⟩
theorem d_M_steps_27 : xk_d c_M_steps 27 (.iload_n 2) 1 28 := ⟨by decide +kernel, rfl⟩
theorem d_M_steps_28 : xk_d c_M_steps 28 (.baload) 1 29 := ⟨by decide +kernel, rfl⟩
theorem d_M_steps_29 : xk_b c_M_steps 29 (.ifCond .eq 5) 32 (5) 34 := ⟨by decide +kernel, rfl, by decide⟩
theorem d_M_steps_32 : xk_d c_M_steps 32 (.iconst (-1)) 1 33 := ⟨by decide +kernel, rfl⟩
theorem d_M_steps_33 : xk_d c_M_steps 33 (.ireturn) 1 34 := ⟨by decide +kernel, rfl⟩
theorem d_M_steps_34 : xk_d c_M_steps 34 (.aload_n 0) 1 35 := ⟨by decide +kernel, rfl⟩
theorem d_M_steps_35 : xk_d c_M_steps 35 (.iload_n 1) 1 36 := ⟨by decide +kernel, rfl⟩
theorem d_M_steps_36 : xk_d c_M_steps 36 (.iload_n 2) 1 37 := ⟨by decide +kernel, rfl⟩
theorem d_M_steps_37 : xk_d c_M_steps 37 (.iconst 0) 1 38 := ⟨by decide +kernel, rfl⟩
theorem d_M_steps_38 : xk_d c_M_steps 38 (.invokevirtual 117) 3 41 := ⟨by decide +kernel, rfl⟩
theorem d_M_steps_41 : xk_d c_M_steps 41 (.istore_n 3) 1 42 := ⟨by decide +kernel, rfl⟩
theorem d_M_steps_42 : xk_d c_M_steps 42 (.iload_n 3) 1 43 := ⟨by decide +kernel, rfl⟩
theorem d_M_steps_43 : xk_b c_M_steps 43 (.ifCond .ne 12) 46 (12) 55 := ⟨by decide +kernel, rfl, by decide⟩
theorem d_M_steps_46 : xk_d c_M_steps 46 (.iload_n 1) 1 47 := ⟨by decide +kernel, rfl⟩
theorem d_M_steps_47 : xk_d c_M_steps 47 (.iload_n 2) 1 48 := ⟨by decide +kernel, rfl⟩
theorem d_M_steps_48 : xk_b c_M_steps 48 (.if_icmp .eq 7) 51 (7) 55 := ⟨by decide +kernel, rfl, by decide⟩
theorem d_M_steps_51 : xk_d c_M_steps 51 (.iconst (-1)) 1 52 := ⟨by decide +kernel, rfl⟩
theorem d_M_steps_52 : xk_b c_M_steps 52 (.goto 4) 55 (4) 56 := ⟨by decide +kernel, rfl, by decide⟩
theorem d_M_steps_55 : xk_d c_M_steps 55 (.iload_n 3) 1 56 := ⟨by decide +kernel, rfl⟩
theorem d_M_steps_56 : xk_d c_M_steps 56 (.ireturn) 1 57 := ⟨by decide +kernel, rfl⟩
theorem d_M_obey_0 : xk_d c_M_obey 0 (.iconst 0) 1 1 := ⟨by decide +kernel, rfl⟩
theorem d_M_obey_1 : xk_d c_M_obey 1 (.istore_n 2) 1 2 := ⟨by decide +kernel, rfl⟩
theorem d_M_obey_2 : xk_d c_M_obey 2 (.iload_n 2) 1 3 := ⟨by decide +kernel, rfl⟩
theorem d_M_obey_3 : xk_d c_M_obey 3 (.aload_n 0) 1 4 := ⟨by decide +kernel, rfl⟩
theorem d_M_obey_4 : xk_d c_M_obey 4 (.getfield 110) 3 7 := ⟨by decide +kernel, rfl⟩
theorem d_M_obey_7 : xk_b c_M_obey 7 (.if_icmp .ge 73) 10 (73) 80 := ⟨by decide +kernel, rfl, by decide⟩
theorem d_M_obey_10 : xk_d c_M_obey 10 (.aload_n 0) 1 11 := ⟨by decide +kernel, rfl⟩
theorem d_M_obey_11 : xk_d c_M_obey 11 (.getfield 26) 3 14 := ⟨by decide +kernel, rfl⟩
theorem d_M_obey_14 : xk_d c_M_obey 14 (.iload_n 2) 1 15 := ⟨by decide +kernel, rfl⟩
theorem d_M_obey_15 : xk_d c_M_obey 15 (.iaload) 1 16 := ⟨by decide +kernel, rfl⟩
theorem d_M_obey_16 : xk_d c_M_obey 16 (.istore_n 3) 1 17 := ⟨by decide +kernel, rfl⟩
theorem d_M_obey_17 : xk_d c_M_obey 17 (.aload_n 0) 1 18 := ⟨by decide +kernel, rfl⟩
theorem d_M_obey_18 : xk_d c_M_obey 18 (.getfield 23) 3 21 := ⟨by decide +kernel, rfl⟩
theorem d_M_obey_21 : xk_d c_M_obey 21 (.iload_n 2) 1 22 := ⟨by decide +kernel, rfl⟩
theorem d_M_obey_22 : xk_d c_M_obey 22 (.iaload) 1 23 := ⟨by decide +kernel, rfl⟩
theorem d_M_obey_23 : xk_d c_M_obey 23 (.iload_n 1) 1 24 := ⟨by decide +kernel, rfl⟩
theorem d_M_obey_24 : xk_b c_M_obey 24 (.if_icmp .ne 50) 27 (50) 74 := ⟨by decide +kernel, rfl, by decide⟩
theorem d_M_obey_27 : xk_d c_M_obey 27 (.aload_n 0) 1 28 := ⟨by decide +kernel, rfl⟩
theorem d_M_obey_28 : xk_d c_M_obey 28 (.getfield 35) 3 31 := ⟨by decide +kernel, rfl⟩
theorem d_M_obey_31 : xk_d c_M_obey 31 (.iload_n 3) 1 32 := ⟨by decide +kernel, rfl⟩
theorem d_M_obey_32 : xk_d c_M_obey 32 (.iaload) 1 33 := ⟨by decide +kernel, rfl⟩
theorem d_M_obey_33 : xk_b c_M_obey 33 (.ifCond .le 41) 36 (41) 74 := ⟨by decide +kernel, rfl, by decide⟩
theorem d_M_obey_36 : xk_d c_M_obey 36 (.aload_n 0) 1 37 := ⟨by decide +kernel, rfl⟩
theorem d_M_obey_37 : xk_d c_M_obey 37 (.getfield 53) 3 40 := ⟨by decide +kernel, rfl⟩
theorem d_M_obey_40 : xk_d c_M_obey 40 (.iload_n 3) 1 41 := ⟨by decide +kernel, rfl⟩
theorem d_M_obey_41 : xk_d c_M_obey 41 (.iconst 0) 1 42 := ⟨by decide +kernel, rfl⟩
theorem d_M_obey_42 : xk_d c_M_obey 42 (.iastore) 1 43 := ⟨by decide +kernel, rfl⟩
theorem d_M_obey_43 : xk_d c_M_obey 43 (.aload_n 0) 1 44 := ⟨by decide +kernel, rfl⟩
theorem d_M_obey_44 : xk_d c_M_obey 44 (.getfield 47) 3 47 := ⟨by decide +kernel, rfl⟩
theorem d_M_obey_47 : xk_d c_M_obey 47 (.iload_n 3) 1 48 := ⟨by decide +kernel, rfl⟩
theorem d_M_obey_48 : xk_d c_M_obey 48 (.iconst 0) 1 49 := ⟨by decide +kernel, rfl⟩
theorem d_M_obey_49 : xk_d c_M_obey 49 (.iastore) 1 50 := ⟨by decide +kernel, rfl⟩
theorem d_M_obey_50 : xk_d c_M_obey 50 (.aload_n 0) 1 51 := ⟨by decide +kernel, rfl⟩
theorem d_M_obey_51 : xk_d c_M_obey 51 (.getfield 41) 3 54 := ⟨by decide +kernel, rfl⟩
theorem d_M_obey_54 : xk_d c_M_obey 54 (.iload_n 3) 1 55 := ⟨by decide +kernel, rfl⟩
theorem d_M_obey_55 : xk_d c_M_obey 55 (.aload_n 0) 1 56 := ⟨by decide +kernel, rfl⟩
theorem d_M_obey_56 : xk_d c_M_obey 56 (.getfield 29) 3 59 := ⟨by decide +kernel, rfl⟩
theorem d_M_obey_59 : xk_d c_M_obey 59 (.iload_n 2) 1 60 := ⟨by decide +kernel, rfl⟩
theorem d_M_obey_60 : xk_d c_M_obey 60 (.iaload) 1 61 := ⟨by decide +kernel, rfl⟩
theorem d_M_obey_61 : xk_d c_M_obey 61 (.iastore) 1 62 := ⟨by decide +kernel, rfl⟩
theorem d_M_obey_62 : xk_d c_M_obey 62 (.aload_n 0) 1 63 := ⟨by decide +kernel, rfl⟩
theorem d_M_obey_63 : xk_d c_M_obey 63 (.getfield 44) 3 66 := ⟨by decide +kernel, rfl⟩
theorem d_M_obey_66 : xk_d c_M_obey 66 (.iload_n 3) 1 67 := ⟨by decide +kernel, rfl⟩
theorem d_M_obey_67 : xk_d c_M_obey 67 (.aload_n 0) 1 68 := ⟨by decide +kernel, rfl⟩
theorem d_M_obey_68 : xk_d c_M_obey 68 (.getfield 32) 3 71 := ⟨by decide +kernel, rfl⟩
theorem d_M_obey_71 : xk_d c_M_obey 71 (.iload_n 2) 1 72 := ⟨by decide +kernel, rfl⟩
theorem d_M_obey_72 : xk_d c_M_obey 72 (.iaload) 1 73 := ⟨by decide +kernel, rfl⟩
theorem d_M_obey_73 : xk_d c_M_obey 73 (.iastore) 1 74 := ⟨by decide +kernel, rfl⟩
theorem d_M_obey_74 : xk_d c_M_obey 74 (.iinc 2 1) 3 77 := ⟨by decide +kernel, rfl⟩
theorem d_M_obey_77 : xk_b c_M_obey 77 (.goto (-75)) 80 (-75) 2 := ⟨by decide +kernel, rfl, by decide⟩
theorem d_M_obey_80 : xk_d c_M_obey 80 (.return_) 1 81 := ⟨by decide +kernel, rfl⟩
theorem d_M_stop_0 : xk_d c_M_stop 0 (.aload_n 0) 1 1 := ⟨by decide +kernel, rfl⟩
theorem d_M_stop_1 : xk_d c_M_stop 1 (.getfield 41) 3 4 := ⟨by decide +kernel, rfl⟩
theorem d_M_stop_4 : xk_d c_M_stop 4 (.iload_n 1) 1 5 := ⟨by decide +kernel, rfl⟩
theorem d_M_stop_5 : xk_d c_M_stop 5 (.iconst 0) 1 6 := ⟨by decide +kernel, rfl⟩
theorem d_M_stop_6 : xk_d c_M_stop 6 (.iastore) 1 7 := ⟨by decide +kernel, rfl⟩
theorem d_M_stop_7 : xk_d c_M_stop 7 (.aload_n 0) 1 8 := ⟨by decide +kernel, rfl⟩
theorem d_M_stop_8 : xk_d c_M_stop 8 (.getfield 44) 3 11 := ⟨by decide +kernel, rfl⟩
theorem d_M_stop_11 : xk_d c_M_stop 11 (.iload_n 1) 1 12 := ⟨by decide +kernel, rfl⟩
theorem d_M_stop_12 : xk_d c_M_stop 12 (.iconst 0) 1 13 := ⟨by decide +kernel, rfl⟩
theorem d_M_stop_13 : xk_d c_M_stop 13 (.iastore) 1 14 := ⟨by decide +kernel, rfl⟩
theorem d_M_stop_14 : xk_d c_M_stop 14 (.return_) 1 15 := ⟨by decide +kernel, rfl⟩
theorem d_M_move_0 : xk_d c_M_move 0 (.aload_n 0) 1 1 := ⟨by decide +kernel, rfl⟩
theorem d_M_move_1 : xk_d c_M_move 1 (.getfield 41) 3 4 := ⟨by decide +kernel, rfl⟩
theorem d_M_move_4 : xk_d c_M_move 4 (.iload_n 1) 1 5 := ⟨by decide +kernel, rfl⟩
theorem d_M_move_5 : xk_d c_M_move 5 (.iaload) 1 6 := ⟨by decide +kernel, rfl⟩
theorem d_M_move_6 : xk_d c_M_move 6 (.iconst 2) 1 7 := ⟨by decide +kernel, rfl⟩
theorem d_M_move_7 : xk_b c_M_move 7 (.if_icmp .ne 7) 10 (7) 14 := ⟨by decide +kernel, rfl, by decide⟩
theorem d_M_move_10 : xk_d c_M_move 10 (.iconst 1) 1 11 := ⟨by decide +kernel, rfl⟩
theorem d_M_move_11 : xk_b c_M_move 11 (.goto 4) 14 (4) 15 := ⟨by decide +kernel, rfl, by decide⟩
theorem d_M_move_14 : xk_d c_M_move 14 (.iconst 0) 1 15 := ⟨by decide +kernel, rfl⟩
theorem d_M_move_15 : xk_d c_M_move 15 (.istore_n 2) 1 16 := ⟨by decide +kernel, rfl⟩
theorem d_M_move_16 : xk_d c_M_move 16 (.iload_n 2) 1 17 := ⟨by decide +kernel, rfl⟩
theorem d_M_move_17 : xk_b c_M_move 17 (.ifCond .eq 20) 20 (20) 37 := ⟨by decide +kernel, rfl, by decide⟩
theorem d_M_move_20 : xk_d c_M_move 20 (.aload_n 0) 1 21 := ⟨by decide +kernel, rfl⟩
theorem d_M_move_21 : xk_d c_M_move 21 (.getfield 35) 3 24 := ⟨by decide +kernel, rfl⟩
theorem d_M_move_24 : xk_d c_M_move 24 (.aload_n 0) 1 25 := ⟨by decide +kernel, rfl⟩
theorem d_M_move_25 : xk_d c_M_move 25 (.getfield 44) 3 28 := ⟨by decide +kernel, rfl⟩
theorem d_M_move_28 : xk_d c_M_move 28 (.iload_n 1) 1 29 := ⟨by decide +kernel, rfl⟩
theorem d_M_move_29 : xk_d c_M_move 29 (.iaload) 1 30 := ⟨by decide +kernel, rfl⟩
theorem d_M_move_30 : xk_d c_M_move 30 (.iaload) 1 31 := ⟨by decide +kernel, rfl⟩
theorem d_M_move_31 : xk_b c_M_move 31 (.ifCond .ne 41) 34 (41) 72 := ⟨by decide +kernel, rfl, by decide⟩
theorem d_M_move_34 : xk_b c_M_move 34 (.goto 32) 37 (32) 66 := ⟨by decide +kernel, rfl, by decide⟩
theorem d_M_move_37 : xk_d c_M_move 37 (.aload_n 0) 1 38 := ⟨by decide +kernel, rfl⟩
theorem d_M_move_38 : xk_d c_M_move 38 (.getfield 44) 3 41 := ⟨by decide +kernel, rfl⟩
theorem d_M_move_41 : xk_d c_M_move 41 (.iload_n 1) 1 42 := ⟨by decide +kernel, rfl⟩
theorem d_M_move_42 : xk_d c_M_move 42 (.iaload) 1 43 := ⟨by decide +kernel, rfl⟩
theorem d_M_move_43 : xk_d c_M_move 43 (.aload_n 0) 1 44 := ⟨by decide +kernel, rfl⟩
theorem d_M_move_44 : xk_d c_M_move 44 (.getfield 38) 3 47 := ⟨by decide +kernel, rfl⟩
theorem d_M_move_47 : xk_d c_M_move 47 (.iload_n 1) 1 48 := ⟨by decide +kernel, rfl⟩
theorem d_M_move_48 : xk_d c_M_move 48 (.iaload) 1 49 := ⟨by decide +kernel, rfl⟩
theorem d_M_move_49 : xk_b c_M_move 49 (.if_icmp .eq 17) 52 (17) 66 := ⟨by decide +kernel, rfl, by decide⟩
theorem d_M_move_52 : xk_d c_M_move 52 (.aload_n 0) 1 53 := ⟨by decide +kernel, rfl⟩
theorem d_M_move_53 : xk_d c_M_move 53 (.getfield 7) 3 56 := ⟨by decide +kernel, rfl⟩
theorem d_M_move_56 : xk_d c_M_move 56 (.aload_n 0) 1 57 := ⟨by decide +kernel, rfl⟩
theorem d_M_move_57 : xk_d c_M_move 57 (.getfield 44) 3 60 := ⟨by decide +kernel, rfl⟩
theorem d_M_move_60 : xk_d c_M_move 60 (.iload_n 1) 1 61 := ⟨by decide +kernel, rfl⟩
theorem d_M_move_61 : xk_d c_M_move 61 (.iaload) 1 62 := ⟨by decide +kernel, rfl⟩
theorem d_M_move_62 : xk_d c_M_move 62 (.baload) 1 63 := ⟨by decide +kernel, rfl⟩
theorem d_M_move_63 : xk_b c_M_move 63 (.ifCond .eq 9) 66 (9) 72 := ⟨by decide +kernel, rfl, by decide⟩
theorem d_M_move_66 : xk_d c_M_move 66 (.aload_n 0) 1 67 := ⟨by decide +kernel, rfl⟩
theorem d_M_move_67 : xk_d c_M_move 67 (.iload_n 1) 1 68 := ⟨by decide +kernel, rfl⟩
theorem d_M_move_68 : xk_d c_M_move 68 (.invokevirtual 121) 3 71 := ⟨by decide +kernel, rfl⟩
theorem d_M_move_71 : xk_d c_M_move 71 (.return_) 1 72 := ⟨by decide +kernel, rfl⟩
theorem d_M_move_72 : xk_d c_M_move 72 (.iload_n 2) 1 73 := ⟨by decide +kernel, rfl⟩
theorem d_M_move_73 : xk_b c_M_move 73 (.ifCond .eq 17) 76 (17) 90 := ⟨by decide +kernel, rfl, by decide⟩
theorem d_M_move_76 : xk_d c_M_move 76 (.aload_n 0) 1 77 := ⟨by decide +kernel, rfl⟩
theorem d_M_move_77 : xk_d c_M_move 77 (.getfield 38) 3 80 := ⟨by decide +kernel, rfl⟩
theorem d_M_move_80 : xk_d c_M_move 80 (.aload_n 0) 1 81 := ⟨by decide +kernel, rfl⟩
theorem d_M_move_81 : xk_d c_M_move 81 (.getfield 44) 3 84 := ⟨by decide +kernel, rfl⟩
theorem d_M_move_84 : xk_d c_M_move 84 (.iload_n 1) 1 85 := ⟨by decide +kernel, rfl⟩
theorem d_M_move_85 : xk_d c_M_move 85 (.iaload) 1 86 := ⟨by decide +kernel, rfl⟩
theorem d_M_move_86 : xk_d c_M_move 86 (.iaload) 1 87 := ⟨by decide +kernel, rfl⟩
theorem d_M_move_87 : xk_b c_M_move 87 (.goto 9) 90 (9) 96 := ⟨by decide +kernel, rfl, by decide⟩
theorem d_M_move_90 : xk_d c_M_move 90 (.aload_n 0) 1 91 := ⟨by decide +kernel, rfl⟩
theorem d_M_move_91 : xk_d c_M_move 91 (.getfield 44) 3 94 := ⟨by decide +kernel, rfl⟩
theorem d_M_move_94 : xk_d c_M_move 94 (.iload_n 1) 1 95 := ⟨by decide +kernel, rfl⟩
theorem d_M_move_95 : xk_d c_M_move 95 (.iaload) 1 96 := ⟨by decide +kernel, rfl⟩
theorem d_M_move_96 : xk_d c_M_move 96 (.istore_n 3) 1 97 := ⟨by decide +kernel, rfl⟩
theorem d_M_move_97 : xk_d c_M_move 97 (.iload_n 2) 1 98 := ⟨by decide +kernel, rfl⟩
theorem d_M_move_98 : xk_b c_M_move 98 (.ifCond .eq 25) 101 (25) 123 := ⟨by decide +kernel, rfl, by decide⟩
theorem d_M_move_101 : xk_d c_M_move 101 (.aload_n 0) 1 102 := ⟨by decide +kernel, rfl⟩
theorem d_M_move_102 : xk_d c_M_move 102 (.getfield 38) 3 105 := ⟨by decide +kernel, rfl⟩
theorem d_M_move_105 : xk_d c_M_move 105 (.iload_n 1) 1 106 := ⟨by decide +kernel, rfl⟩
theorem d_M_move_106 : xk_d c_M_move 106 (.iaload) 1 107 := ⟨by decide +kernel, rfl⟩
theorem d_M_move_107 : xk_d c_M_move 107 (.iload_n 3) 1 108 := ⟨by decide +kernel, rfl⟩
theorem d_M_move_108 : xk_d c_M_move 108 (.invokestatic 125) 3 111 := ⟨by decide +kernel, rfl⟩
theorem d_M_move_111 : xk_d c_M_move 111 (.iconst 1) 1 112 := ⟨by decide +kernel, rfl⟩
theorem d_M_move_112 : xk_b c_M_move 112 (.if_icmp .ne 11) 115 (11) 123 := ⟨by decide +kernel, rfl, by decide⟩
theorem d_M_move_115 : xk_d c_M_move 115 (.aload_n 0) 1 116 := ⟨by decide +kernel, rfl⟩
theorem d_M_move_116 : xk_d c_M_move 116 (.getfield 53) 3 119 := ⟨by decide +kernel, rfl⟩
theorem d_M_move_119 : xk_d c_M_move 119 (.iload_n 1) 1 120 := ⟨by decide +kernel, rfl⟩
theorem d_M_move_120 : xk_d c_M_move 120 (.iconst 0) 1 121 := ⟨by decide +kernel, rfl⟩
theorem d_M_move_121 : xk_d c_M_move 121 (.iastore) 1 122 := ⟨by decide +kernel, rfl⟩
theorem d_M_move_122 : xk_d c_M_move 122 (.return_) 1 123 := ⟨by decide +kernel, rfl⟩
theorem d_M_move_123 : xk_d c_M_move 123 (.aload_n 0) 1 124 := ⟨by decide +kernel, rfl⟩
theorem d_M_move_124 : xk_d c_M_move 124 (.getfield 53) 3 127 := ⟨by decide +kernel, rfl⟩
theorem d_M_move_127 : xk_d c_M_move 127 (.iload_n 1) 1 128 := ⟨by decide +kernel, rfl⟩
theorem d_M_move_128 : xk_d c_M_move 128 (.iaload) 1 129 := ⟨by decide +kernel, rfl⟩
theorem d_M_move_129 : xk_b c_M_move 129 (.ifCond .eq 25) 132 (25) 154 := ⟨by decide +kernel, rfl, by decide⟩
theorem d_M_move_132 : xk_d c_M_move 132 (.aload_n 0) 1 133 := ⟨by decide +kernel, rfl⟩
theorem d_M_move_133 : xk_d c_M_move 133 (.getfield 50) 3 136 := ⟨by decide +kernel, rfl⟩
theorem d_M_move_136 : xk_d c_M_move 136 (.bipush 64) 2 138 := ⟨by decide +kernel, rfl⟩
theorem d_M_move_138 : xk_d c_M_move 138 (.iload_n 1) 1 139 := ⟨by decide +kernel, rfl⟩
theorem d_M_move_139 : xk_d c_M_move 139 (.imul) 1 140 := ⟨by decide +kernel, rfl⟩
theorem d_M_move_140 : xk_d c_M_move 140 (.aload_n 0) 1 141 := ⟨by decide +kernel, rfl⟩
theorem d_M_move_141 : xk_d c_M_move 141 (.getfield 53) 3 144 := ⟨by decide +kernel, rfl⟩
theorem d_M_move_144 : xk_d c_M_move 144 (.iload_n 1) 1 145 := ⟨by decide +kernel, rfl⟩
theorem d_M_move_145 : xk_d c_M_move 145 (.iaload) 1 146 := ⟨by decide +kernel, rfl⟩
theorem d_M_move_146 : xk_d c_M_move 146 (.iadd) 1 147 := ⟨by decide +kernel, rfl⟩
theorem d_M_move_147 : xk_d c_M_move 147 (.iconst 1) 1 148 := ⟨by decide +kernel, rfl⟩
theorem d_M_move_148 : xk_d c_M_move 148 (.isub) 1 149 := ⟨by decide +kernel, rfl⟩
theorem d_M_move_149 : xk_d c_M_move 149 (.iaload) 1 150 := ⟨by decide +kernel, rfl⟩
theorem d_M_move_150 : xk_d c_M_move 150 (.iload_n 3) 1 151 := ⟨by decide +kernel, rfl⟩
theorem d_M_move_151 : xk_b c_M_move 151 (.if_icmp .eq 20) 154 (20) 171 := ⟨by decide +kernel, rfl, by decide⟩
theorem d_M_move_154 : xk_d c_M_move 154 (.aload_n 0) 1 155 := ⟨by decide +kernel, rfl⟩
theorem d_M_move_155 : xk_d c_M_move 155 (.iload_n 1) 1 156 := ⟨by decide +kernel, rfl⟩
theorem d_M_move_156 : xk_d c_M_move 156 (.aload_n 0) 1 157 := ⟨by decide +kernel, rfl⟩
theorem d_M_move_157 : xk_d c_M_move 157 (.aload_n 0) 1 158 := ⟨by decide +kernel, rfl⟩
theorem d_M_move_158 : xk_d c_M_move 158 (.getfield 38) 3 161 := ⟨by decide +kernel, rfl⟩
theorem d_M_move_161 : xk_d c_M_move 161 (.iload_n 1) 1 162 := ⟨by decide +kernel, rfl⟩
theorem d_M_move_162 : xk_d c_M_move 162 (.iaload) 1 163 := ⟨by decide +kernel, rfl⟩
theorem d_M_move_163 : xk_d c_M_move 163 (.iload_n 3) 1 164 := ⟨by decide +kernel, rfl⟩
theorem d_M_move_164 : xk_d c_M_move 164 (.iconst 0) 1 165 := ⟨by decide +kernel, rfl⟩
theorem d_M_move_165 : xk_d c_M_move 165 (.invokevirtual 117) 3 168 := ⟨by decide +kernel, rfl⟩
theorem d_M_move_168 : xk_d c_M_move 168 (.invokevirtual 128) 3 171 := ⟨by decide +kernel, rfl⟩
theorem d_M_move_171 : xk_d c_M_move 171 (.aload_n 0) 1 172 := ⟨by decide +kernel, rfl⟩
theorem d_M_move_172 : xk_d c_M_move 172 (.getfield 53) 3 175 := ⟨by decide +kernel, rfl⟩
theorem d_M_move_175 : xk_d c_M_move 175 (.iload_n 1) 1 176 := ⟨by decide +kernel, rfl⟩
theorem d_M_move_176 : xk_d c_M_move 176 (.iaload) 1 177 := ⟨by decide +kernel, rfl⟩
theorem d_M_move_177 : xk_b c_M_move 177 (.ifCond .ne 11) 180 (11) 188 := ⟨by decide +kernel, rfl, by decide⟩
theorem d_M_move_180 : xk_d c_M_move 180 (.aload_n 0) 1 181 := ⟨by decide +kernel, rfl⟩
theorem d_M_move_181 : xk_d c_M_move 181 (.iload_n 1) 1 182 := ⟨by decide +kernel, rfl⟩
theorem d_M_move_182 : xk_d c_M_move 182 (.invokevirtual 121) 3 185 := ⟨by decide +kernel, rfl⟩
theorem d_M_move_185 : xk_b c_M_move 185 (.goto 10) 188 (10) 195 := ⟨by decide +kernel, rfl, by decide⟩
theorem d_M_move_188 : xk_d c_M_move 188 (.aload_n 0) 1 189 := ⟨by decide +kernel, rfl⟩
theorem d_M_move_189 : xk_d c_M_move 189 (.iload_n 1) 1 190 := ⟨by decide +kernel, rfl⟩
theorem d_M_move_190 : xk_d c_M_move 190 (.iload_n 3) 1 191 := ⟨by decide +kernel, rfl⟩
theorem d_M_move_191 : xk_d c_M_move 191 (.iload_n 2) 1 192 := ⟨by decide +kernel, rfl⟩
theorem d_M_move_192 : xk_d c_M_move 192 (.invokevirtual 132) 3 195 := ⟨by decide +kernel, rfl⟩
theorem d_M_move_195 : xk_d c_M_move 195 (.return_) 1 196 := ⟨by decide +kernel, rfl⟩
theorem d_M_step_0 : xk_d c_M_step 0 (.aload_n 0) 1 1 := ⟨by decide +kernel, rfl⟩
theorem d_M_step_1 : xk_d c_M_step 1 (.getfield 50) 3 4 := ⟨by decide +kernel, rfl⟩
theorem d_M_step_4 : xk_d c_M_step 4 (.bipush 64) 2 6 := ⟨by decide +kernel, rfl⟩
theorem d_M_step_6 : xk_d c_M_step 6 (.iload_n 1) 1 7 := ⟨by decide +kernel, rfl⟩
theorem d_M_step_7 : xk_d c_M_step 7 (.imul) 1 8 := ⟨by decide +kernel, rfl⟩
theorem d_M_step_8 : xk_d c_M_step 8 (.iaload) 1 9 := ⟨by decide +kernel, rfl⟩
theorem d_M_step_9 : xk_d c_M_step 9 (.istore 4) 2 11 := ⟨by decide +kernel, rfl⟩
theorem d_M_step_11 : xk_d c_M_step 11 (.aload_n 0) 1 12 := ⟨by decide +kernel, rfl⟩
theorem d_M_step_12 : xk_d c_M_step 12 (.iload 4) 2 14 := ⟨by decide +kernel, rfl⟩
theorem d_M_step_14 : xk_d c_M_step 14 (.invokevirtual 101) 3 17 := ⟨by decide +kernel, rfl⟩
theorem d_M_step_17 : xk_b c_M_step 17 (.ifCond .ne 90) 20 (90) 107 := ⟨by decide +kernel, rfl, by decide⟩
theorem d_M_step_20 : xk_d c_M_step 20 (.aload_n 0) 1 21 := ⟨by decide +kernel, rfl⟩
theorem d_M_step_21 : xk_d c_M_step 21 (.getfield 38) 3 24 := ⟨by decide +kernel, rfl⟩
theorem d_M_step_24 : xk_d c_M_step 24 (.iload_n 1) 1 25 := ⟨by decide +kernel, rfl⟩
theorem d_M_step_25 : xk_d c_M_step 25 (.iload 4) 2 27 := ⟨by decide +kernel, rfl⟩
theorem d_M_step_27 : xk_d c_M_step 27 (.iastore) 1 28 := ⟨by decide +kernel, rfl⟩
theorem d_M_step_28 : xk_d c_M_step 28 (.aload_n 0) 1 29 := ⟨by decide +kernel, rfl⟩
theorem d_M_step_29 : xk_d c_M_step 29 (.getfield 53) 3 32 := ⟨by decide +kernel, rfl⟩
theorem d_M_step_32 : xk_d c_M_step 32 (.iload_n 1) 1 33 := ⟨by decide +kernel, rfl⟩
theorem d_M_step_33 : xk_d c_M_step 33 (.dup2) 1 34 := ⟨by decide +kernel, rfl⟩
theorem d_M_step_34 : xk_d c_M_step 34 (.iaload) 1 35 := ⟨by decide +kernel, rfl⟩
theorem d_M_step_35 : xk_d c_M_step 35 (.iconst 1) 1 36 := ⟨by decide +kernel, rfl⟩
theorem d_M_step_36 : xk_d c_M_step 36 (.isub) 1 37 := ⟨by decide +kernel, rfl⟩
theorem d_M_step_37 : xk_d c_M_step 37 (.iastore) 1 38 := ⟨by decide +kernel, rfl⟩
theorem d_M_step_38 : xk_d c_M_step 38 (.iconst 0) 1 39 := ⟨by decide +kernel, rfl⟩
theorem d_M_step_39 : xk_d c_M_step 39 (.istore 5) 2 41 := ⟨by decide +kernel, rfl⟩
theorem d_M_step_41 : xk_d c_M_step 41 (.iload 5) 2 43 := ⟨by decide +kernel, rfl⟩
theorem d_M_step_43 : xk_d c_M_step 43 (.aload_n 0) 1 44 := ⟨by decide +kernel, rfl⟩
theorem d_M_step_44 : xk_d c_M_step 44 (.getfield 53) 3 47 := ⟨by decide +kernel, rfl⟩
theorem d_M_step_47 : xk_d c_M_step 47 (.iload_n 1) 1 48 := ⟨by decide +kernel, rfl⟩
theorem d_M_step_48 : xk_d c_M_step 48 (.iaload) 1 49 := ⟨by decide +kernel, rfl⟩
theorem d_M_step_49 : xk_b c_M_step 49 (.if_icmp .ge 35) 52 (35) 84 := ⟨by decide +kernel, rfl, by decide⟩
theorem d_M_step_52 : xk_d c_M_step 52 (.aload_n 0) 1 53 := ⟨by decide +kernel, rfl⟩
theorem d_M_step_53 : xk_d c_M_step 53 (.getfield 50) 3 56 := ⟨by decide +kernel, rfl⟩
theorem d_M_step_56 : xk_d c_M_step 56 (.bipush 64) 2 58 := ⟨by decide +kernel, rfl⟩
theorem d_M_step_58 : xk_d c_M_step 58 (.iload_n 1) 1 59 := ⟨by decide +kernel, rfl⟩
theorem d_M_step_59 : xk_d c_M_step 59 (.imul) 1 60 := ⟨by decide +kernel, rfl⟩
theorem d_M_step_60 : xk_d c_M_step 60 (.iload 5) 2 62 := ⟨by decide +kernel, rfl⟩
theorem d_M_step_62 : xk_d c_M_step 62 (.iadd) 1 63 := ⟨by decide +kernel, rfl⟩
theorem d_M_step_63 : xk_d c_M_step 63 (.aload_n 0) 1 64 := ⟨by decide +kernel, rfl⟩
theorem d_M_step_64 : xk_d c_M_step 64 (.getfield 50) 3 67 := ⟨by decide +kernel, rfl⟩
theorem d_M_step_67 : xk_d c_M_step 67 (.bipush 64) 2 69 := ⟨by decide +kernel, rfl⟩
theorem d_M_step_69 : xk_d c_M_step 69 (.iload_n 1) 1 70 := ⟨by decide +kernel, rfl⟩
theorem d_M_step_70 : xk_d c_M_step 70 (.imul) 1 71 := ⟨by decide +kernel, rfl⟩
theorem d_M_step_71 : xk_d c_M_step 71 (.iload 5) 2 73 := ⟨by decide +kernel, rfl⟩
theorem d_M_step_73 : xk_d c_M_step 73 (.iadd) 1 74 := ⟨by decide +kernel, rfl⟩
theorem d_M_step_74 : xk_d c_M_step 74 (.iconst 1) 1 75 := ⟨by decide +kernel, rfl⟩
theorem d_M_step_75 : xk_d c_M_step 75 (.iadd) 1 76 := ⟨by decide +kernel, rfl⟩
theorem d_M_step_76 : xk_d c_M_step 76 (.iaload) 1 77 := ⟨by decide +kernel, rfl⟩
theorem d_M_step_77 : xk_d c_M_step 77 (.iastore) 1 78 := ⟨by decide +kernel, rfl⟩
theorem d_M_step_78 : xk_d c_M_step 78 (.iinc 5 1) 3 81 := ⟨by decide +kernel, rfl⟩
theorem d_M_step_81 : xk_b c_M_step 81 (.goto (-40)) 84 (-40) 41 := ⟨by decide +kernel, rfl, by decide⟩
theorem d_M_step_84 : xk_d c_M_step 84 (.aload_n 0) 1 85 := ⟨by decide +kernel, rfl⟩
theorem d_M_step_85 : xk_d c_M_step 85 (.getfield 47) 3 88 := ⟨by decide +kernel, rfl⟩
theorem d_M_step_88 : xk_d c_M_step 88 (.iload_n 1) 1 89 := ⟨by decide +kernel, rfl⟩
theorem d_M_step_89 : xk_d c_M_step 89 (.iconst 0) 1 90 := ⟨by decide +kernel, rfl⟩
theorem d_M_step_90 : xk_d c_M_step 90 (.iastore) 1 91 := ⟨by decide +kernel, rfl⟩
theorem d_M_step_91 : xk_d c_M_step 91 (.iload_n 3) 1 92 := ⟨by decide +kernel, rfl⟩
theorem d_M_step_92 : xk_b c_M_step 92 (.ifCond .ne 14) 95 (14) 106 := ⟨by decide +kernel, rfl, by decide⟩
theorem d_M_step_95 : xk_d c_M_step 95 (.iload 4) 2 97 := ⟨by decide +kernel, rfl⟩
theorem d_M_step_97 : xk_d c_M_step 97 (.iload_n 2) 1 98 := ⟨by decide +kernel, rfl⟩
theorem d_M_step_98 : xk_b c_M_step 98 (.if_icmp .ne 8) 101 (8) 106 := ⟨by decide +kernel, rfl, by decide⟩
theorem d_M_step_101 : xk_d c_M_step 101 (.aload_n 0) 1 102 := ⟨by decide +kernel, rfl⟩
theorem d_M_step_102 : xk_d c_M_step 102 (.iload_n 1) 1 103 := ⟨by decide +kernel, rfl⟩
theorem d_M_step_103 : xk_d c_M_step 103 (.invokevirtual 121) 3 106 := ⟨by decide +kernel, rfl⟩
theorem d_M_step_106 : xk_d c_M_step 106 (.return_) 1 107 := ⟨by decide +kernel, rfl⟩
theorem d_M_step_107 : xk_d c_M_step 107 (.aload_n 0) 1 108 := ⟨by decide +kernel, rfl⟩
theorem d_M_step_108 : xk_d c_M_step 108 (.getfield 47) 3 111 := ⟨by decide +kernel, rfl⟩
theorem d_M_step_111 : xk_d c_M_step 111 (.iload_n 1) 1 112 := ⟨by decide +kernel, rfl⟩
theorem d_M_step_112 : xk_d c_M_step 112 (.dup2) 1 113 := ⟨by decide +kernel, rfl⟩
theorem d_M_step_113 : xk_d c_M_step 113 (.iaload) 1 114 := ⟨by decide +kernel, rfl⟩
theorem d_M_step_114 : xk_d c_M_step 114 (.iconst 1) 1 115 := ⟨by decide +kernel, rfl⟩
theorem d_M_step_115 : xk_d c_M_step 115 (.iadd) 1 116 := ⟨by decide +kernel, rfl⟩
theorem d_M_step_116 : xk_d c_M_step 116 (.iastore) 1 117 := ⟨by decide +kernel, rfl⟩
theorem d_M_step_117 : xk_d c_M_step 117 (.aload_n 0) 1 118 := ⟨by decide +kernel, rfl⟩
theorem d_M_step_118 : xk_d c_M_step 118 (.getfield 47) 3 121 := ⟨by decide +kernel, rfl⟩
theorem d_M_step_121 : xk_d c_M_step 121 (.iload_n 1) 1 122 := ⟨by decide +kernel, rfl⟩
theorem d_M_step_122 : xk_d c_M_step 122 (.iaload) 1 123 := ⟨by decide +kernel, rfl⟩
theorem d_M_step_123 : xk_d c_M_step 123 (.iconst 3) 1 124 := ⟨by decide +kernel, rfl⟩
theorem d_M_step_124 : xk_b c_M_step 124 (.if_icmp .ge 4) 127 (4) 128 := ⟨by decide +kernel, rfl, by decide⟩
theorem d_M_step_127 : xk_d c_M_step 127 (.return_) 1 128 := ⟨by decide +kernel, rfl⟩
theorem d_M_step_128 : xk_d c_M_step 128 (.aload_n 0) 1 129 := ⟨by decide +kernel, rfl⟩
theorem d_M_step_129 : xk_d c_M_step 129 (.getfield 47) 3 132 := ⟨by decide +kernel, rfl⟩
theorem d_M_step_132 : xk_d c_M_step 132 (.iload_n 1) 1 133 := ⟨by decide +kernel, rfl⟩
theorem d_M_step_133 : xk_d c_M_step 133 (.iconst 0) 1 134 := ⟨by decide +kernel, rfl⟩
theorem d_M_step_134 : xk_d c_M_step 134 (.iastore) 1 135 := ⟨by decide +kernel, rfl⟩
theorem d_M_step_135 : xk_d c_M_step 135 (.aload_n 0) 1 136 := ⟨by decide +kernel, rfl⟩
theorem d_M_step_136 : xk_d c_M_step 136 (.aload_n 0) 1 137 := ⟨by decide +kernel, rfl⟩
theorem d_M_step_137 : xk_d c_M_step 137 (.getfield 38) 3 140 := ⟨by decide +kernel, rfl⟩
theorem d_M_step_140 : xk_d c_M_step 140 (.iload_n 1) 1 141 := ⟨by decide +kernel, rfl⟩
theorem d_M_step_141 : xk_d c_M_step 141 (.iaload) 1 142 := ⟨by decide +kernel, rfl⟩
theorem d_M_step_142 : xk_d c_M_step 142 (.iload_n 2) 1 143 := ⟨by decide +kernel, rfl⟩
theorem d_M_step_143 : xk_d c_M_step 143 (.iconst 1) 1 144 := ⟨by decide +kernel, rfl⟩
theorem d_M_step_144 : xk_d c_M_step 144 (.invokevirtual 117) 3 147 := ⟨by decide +kernel, rfl⟩
theorem d_M_step_147 : xk_d c_M_step 147 (.istore 5) 2 149 := ⟨by decide +kernel, rfl⟩
theorem d_M_step_149 : xk_d c_M_step 149 (.iload 5) 2 151 := ⟨by decide +kernel, rfl⟩
theorem d_M_step_151 : xk_b c_M_step 151 (.ifCond .le 10) 154 (10) 161 := ⟨by decide +kernel, rfl, by decide⟩
theorem d_M_step_154 : xk_d c_M_step 154 (.aload_n 0) 1 155 := ⟨by decide +kernel, rfl⟩
theorem d_M_step_155 : xk_d c_M_step 155 (.iload_n 1) 1 156 := ⟨by decide +kernel, rfl⟩
theorem d_M_step_156 : xk_d c_M_step 156 (.iload 5) 2 158 := ⟨by decide +kernel, rfl⟩
theorem d_M_step_158 : xk_d c_M_step 158 (.invokevirtual 128) 3 161 := ⟨by decide +kernel, rfl⟩
theorem d_M_step_161 : xk_d c_M_step 161 (.return_) 1 162 := ⟨by decide +kernel, rfl⟩
theorem d_M_fight_0 : xk_d c_M_fight 0 (.iconst 0) 1 1 := ⟨by decide +kernel, rfl⟩
theorem d_M_fight_1 : xk_d c_M_fight 1 (.istore_n 1) 1 2 := ⟨by decide +kernel, rfl⟩
theorem d_M_fight_2 : xk_d c_M_fight 2 (.iload_n 1) 1 3 := ⟨by decide +kernel, rfl⟩
theorem d_M_fight_3 : xk_d c_M_fight 3 (.aload_n 0) 1 4 := ⟨by decide +kernel, rfl⟩
theorem d_M_fight_4 : xk_d c_M_fight 4 (.getfield 89) 3 7 := ⟨by decide +kernel, rfl⟩
theorem d_M_fight_7 : xk_b c_M_fight 7 (.if_icmp .ge 16) 10 (16) 23 := ⟨by decide +kernel, rfl, by decide⟩
theorem d_M_fight_10 : xk_d c_M_fight 10 (.aload_n 0) 1 11 := ⟨by decide +kernel, rfl⟩
theorem d_M_fight_11 : xk_d c_M_fight 11 (.getfield 86) 3 14 := ⟨by decide +kernel, rfl⟩
theorem d_M_fight_14 : xk_d c_M_fight 14 (.iload_n 1) 1 15 := ⟨by decide +kernel, rfl⟩
theorem d_M_fight_15 : xk_d c_M_fight 15 (.iconst 0) 1 16 := ⟨by decide +kernel, rfl⟩
theorem d_M_fight_16 : xk_d c_M_fight 16 (.iastore) 1 17 := ⟨by decide +kernel, rfl⟩
theorem d_M_fight_17 : xk_d c_M_fight 17 (.iinc 1 1) 3 20 := ⟨by decide +kernel, rfl⟩
theorem d_M_fight_20 : xk_b c_M_fight 20 (.goto (-18)) 23 (-18) 2 := ⟨by decide +kernel, rfl, by decide⟩
theorem d_M_fight_23 : xk_d c_M_fight 23 (.iconst 0) 1 24 := ⟨by decide +kernel, rfl⟩
theorem d_M_fight_24 : xk_d c_M_fight 24 (.istore_n 1) 1 25 := ⟨by decide +kernel, rfl⟩
theorem d_M_fight_25 : xk_d c_M_fight 25 (.iload_n 1) 1 26 := ⟨by decide +kernel, rfl⟩
theorem d_M_fight_26 : xk_d c_M_fight 26 (.aload_n 0) 1 27 := ⟨by decide +kernel, rfl⟩
theorem d_M_fight_27 : xk_d c_M_fight 27 (.getfield 89) 3 30 := ⟨by decide +kernel, rfl⟩
theorem d_M_fight_30 : xk_b c_M_fight 30 (.if_icmp .ge 91) 33 (91) 121 := ⟨by decide +kernel, rfl, by decide⟩
theorem d_M_fight_33 : xk_d c_M_fight 33 (.aload_n 0) 1 34 := ⟨by decide +kernel, rfl⟩
theorem d_M_fight_34 : xk_d c_M_fight 34 (.getfield 35) 3 37 := ⟨by decide +kernel, rfl⟩
theorem d_M_fight_37 : xk_d c_M_fight 37 (.iload_n 1) 1 38 := ⟨by decide +kernel, rfl⟩
theorem d_M_fight_38 : xk_d c_M_fight 38 (.iaload) 1 39 := ⟨by decide +kernel, rfl⟩
theorem d_M_fight_39 : xk_b c_M_fight 39 (.ifCond .le 55) 42 (55) 94 := ⟨by decide +kernel, rfl, by decide⟩
theorem d_M_fight_42 : xk_d c_M_fight 42 (.aload_n 0) 1 43 := ⟨by decide +kernel, rfl⟩
theorem d_M_fight_43 : xk_d c_M_fight 43 (.getfield 41) 3 46 := ⟨by decide +kernel, rfl⟩
theorem d_M_fight_46 : xk_d c_M_fight 46 (.iload_n 1) 1 47 := ⟨by decide +kernel, rfl⟩
theorem d_M_fight_47 : xk_d c_M_fight 47 (.iaload) 1 48 := ⟨by decide +kernel, rfl⟩
theorem d_M_fight_48 : xk_d c_M_fight 48 (.iconst 2) 1 49 := ⟨by decide +kernel, rfl⟩
theorem d_M_fight_49 : xk_b c_M_fight 49 (.if_icmp .ne 45) 52 (45) 94 := ⟨by decide +kernel, rfl, by decide⟩
theorem d_M_fight_52 : xk_d c_M_fight 52 (.aload_n 0) 1 53 := ⟨by decide +kernel, rfl⟩
theorem d_M_fight_53 : xk_d c_M_fight 53 (.getfield 35) 3 56 := ⟨by decide +kernel, rfl⟩
theorem d_M_fight_56 : xk_d c_M_fight 56 (.aload_n 0) 1 57 := ⟨by decide +kernel, rfl⟩
theorem d_M_fight_57 : xk_d c_M_fight 57 (.getfield 44) 3 60 := ⟨by decide +kernel, rfl⟩
theorem d_M_fight_60 : xk_d c_M_fight 60 (.iload_n 1) 1 61 := ⟨by decide +kernel, rfl⟩
theorem d_M_fight_61 : xk_d c_M_fight 61 (.iaload) 1 62 := ⟨by decide +kernel, rfl⟩
theorem d_M_fight_62 : xk_d c_M_fight 62 (.iaload) 1 63 := ⟨by decide +kernel, rfl⟩
theorem d_M_fight_63 : xk_b c_M_fight 63 (.ifCond .le 31) 66 (31) 94 := ⟨by decide +kernel, rfl, by decide⟩
theorem d_M_fight_66 : xk_d c_M_fight 66 (.aload_n 0) 1 67 := ⟨by decide +kernel, rfl⟩
theorem d_M_fight_67 : xk_d c_M_fight 67 (.getfield 38) 3 70 := ⟨by decide +kernel, rfl⟩
theorem d_M_fight_70 : xk_d c_M_fight 70 (.iload_n 1) 1 71 := ⟨by decide +kernel, rfl⟩
theorem d_M_fight_71 : xk_d c_M_fight 71 (.iaload) 1 72 := ⟨by decide +kernel, rfl⟩
theorem d_M_fight_72 : xk_d c_M_fight 72 (.aload_n 0) 1 73 := ⟨by decide +kernel, rfl⟩
theorem d_M_fight_73 : xk_d c_M_fight 73 (.getfield 38) 3 76 := ⟨by decide +kernel, rfl⟩
theorem d_M_fight_76 : xk_d c_M_fight 76 (.aload_n 0) 1 77 := ⟨by decide +kernel, rfl⟩
theorem d_M_fight_77 : xk_d c_M_fight 77 (.getfield 44) 3 80 := ⟨by decide +kernel, rfl⟩
theorem d_M_fight_80 : xk_d c_M_fight 80 (.iload_n 1) 1 81 := ⟨by decide +kernel, rfl⟩
theorem d_M_fight_81 : xk_d c_M_fight 81 (.iaload) 1 82 := ⟨by decide +kernel, rfl⟩
theorem d_M_fight_82 : xk_d c_M_fight 82 (.iaload) 1 83 := ⟨by decide +kernel, rfl⟩
theorem d_M_fight_83 : xk_d c_M_fight 83 (.invokestatic 125) 3 86 := ⟨by decide +kernel, rfl⟩
theorem d_M_fight_86 : xk_d c_M_fight 86 (.iconst 1) 1 87 := ⟨by decide +kernel, rfl⟩
theorem d_M_fight_87 : xk_b c_M_fight 87 (.if_icmp .ne 7) 90 (7) 94 := ⟨by decide +kernel, rfl, by decide⟩
theorem d_M_fight_90 : xk_d c_M_fight 90 (.iconst 1) 1 91 := ⟨by decide +kernel, rfl⟩
theorem d_M_fight_91 : xk_b c_M_fight 91 (.goto 4) 94 (4) 95 := ⟨by decide +kernel, rfl, by decide⟩
theorem d_M_fight_94 : xk_d c_M_fight 94 (.iconst 0) 1 95 := ⟨by decide +kernel, rfl⟩
theorem d_M_fight_95 : xk_d c_M_fight 95 (.istore_n 2) 1 96 := ⟨by decide +kernel, rfl⟩
theorem d_M_fight_96 : xk_d c_M_fight 96 (.iload_n 2) 1 97 := ⟨by decide +kernel, rfl⟩
theorem d_M_fight_97 : xk_b c_M_fight 97 (.ifCond .eq 18) 100 (18) 115 := ⟨by decide +kernel, rfl, by decide⟩
theorem d_M_fight_100 : xk_d c_M_fight 100 (.aload_n 0) 1 101 := ⟨by decide +kernel, rfl⟩
theorem d_M_fight_101 : xk_d c_M_fight 101 (.getfield 86) 3 104 := ⟨by decide +kernel, rfl⟩
theorem d_M_fight_104 : xk_d c_M_fight 104 (.aload_n 0) 1 105 := ⟨by decide +kernel, rfl⟩
theorem d_M_fight_105 : xk_d c_M_fight 105 (.getfield 44) 3 108 := ⟨by decide +kernel, rfl⟩
theorem d_M_fight_108 : xk_d c_M_fight 108 (.iload_n 1) 1 109 := ⟨by decide +kernel, rfl⟩
theorem d_M_fight_109 : xk_d c_M_fight 109 (.iaload) 1 110 := ⟨by decide +kernel, rfl⟩
theorem d_M_fight_110 : xk_d c_M_fight 110 (.dup2) 1 111 := ⟨by decide +kernel, rfl⟩
theorem d_M_fight_111 : xk_d c_M_fight 111 (.iaload) 1 112 := ⟨by decide +kernel, rfl⟩
theorem d_M_fight_112 : xk_d c_M_fight 112 (.iconst 3) 1 113 := ⟨by decide +kernel, rfl⟩
theorem d_M_fight_113 : xk_d c_M_fight 113 (.iadd) 1 114 := ⟨by decide +kernel, rfl⟩
theorem d_M_fight_114 : xk_d c_M_fight 114 (.iastore) 1 115 := ⟨by decide +kernel, rfl⟩
theorem d_M_fight_115 : xk_d c_M_fight 115 (.iinc 1 1) 3 118 := ⟨by decide +kernel, rfl⟩
theorem d_M_fight_118 : xk_b c_M_fight 118 (.goto (-93)) 121 (-93) 25 := ⟨by decide +kernel, rfl, by decide⟩
theorem d_M_fight_121 : xk_d c_M_fight 121 (.iconst 0) 1 122 := ⟨by decide +kernel, rfl⟩
theorem d_M_fight_122 : xk_d c_M_fight 122 (.istore_n 1) 1 123 := ⟨by decide +kernel, rfl⟩
theorem d_M_fight_123 : xk_d c_M_fight 123 (.iload_n 1) 1 124 := ⟨by decide +kernel, rfl⟩
theorem d_M_fight_124 : xk_d c_M_fight 124 (.aload_n 0) 1 125 := ⟨by decide +kernel, rfl⟩
theorem d_M_fight_125 : xk_d c_M_fight 125 (.getfield 89) 3 128 := ⟨by decide +kernel, rfl⟩
theorem d_M_fight_128 : xk_b c_M_fight 128 (.if_icmp .ge 100) 131 (100) 228 := ⟨by decide +kernel, rfl, by decide⟩
theorem d_M_fight_131 : xk_d c_M_fight 131 (.aload_n 0) 1 132 := ⟨by decide +kernel, rfl⟩
theorem d_M_fight_132 : xk_d c_M_fight 132 (.getfield 35) 3 135 := ⟨by decide +kernel, rfl⟩
theorem d_M_fight_135 : xk_d c_M_fight 135 (.iload_n 1) 1 136 := ⟨by decide +kernel, rfl⟩
theorem d_M_fight_136 : xk_d c_M_fight 136 (.iaload) 1 137 := ⟨by decide +kernel, rfl⟩
theorem d_M_fight_137 : xk_b c_M_fight 137 (.ifCond .le 22) 140 (22) 159 := ⟨by decide +kernel, rfl, by decide⟩
theorem d_M_fight_140 : xk_d c_M_fight 140 (.aload_n 0) 1 141 := ⟨by decide +kernel, rfl⟩
theorem d_M_fight_141 : xk_d c_M_fight 141 (.getfield 35) 3 144 := ⟨by decide +kernel, rfl⟩
theorem d_M_fight_144 : xk_d c_M_fight 144 (.iload_n 1) 1 145 := ⟨by decide +kernel, rfl⟩
theorem d_M_fight_145 : xk_d c_M_fight 145 (.iaload) 1 146 := ⟨by decide +kernel, rfl⟩
theorem d_M_fight_146 : xk_d c_M_fight 146 (.aload_n 0) 1 147 := ⟨by decide +kernel, rfl⟩
theorem d_M_fight_147 : xk_d c_M_fight 147 (.getfield 86) 3 150 := ⟨by decide +kernel, rfl⟩
theorem d_M_fight_150 : xk_d c_M_fight 150 (.iload_n 1) 1 151 := ⟨by decide +kernel, rfl⟩
theorem d_M_fight_151 : xk_d c_M_fight 151 (.iaload) 1 152 := ⟨by decide +kernel, rfl⟩
theorem d_M_fight_152 : xk_b c_M_fight 152 (.if_icmp .gt 7) 155 (7) 159 := ⟨by decide +kernel, rfl, by decide⟩
theorem d_M_fight_155 : xk_d c_M_fight 155 (.iconst 1) 1 156 := ⟨by decide +kernel, rfl⟩
theorem d_M_fight_156 : xk_b c_M_fight 156 (.goto 4) 159 (4) 160 := ⟨by decide +kernel, rfl, by decide⟩
theorem d_M_fight_159 : xk_d c_M_fight 159 (.iconst 0) 1 160 := ⟨by decide +kernel, rfl⟩
theorem d_M_fight_160 : xk_d c_M_fight 160 (.istore_n 2) 1 161 := ⟨by decide +kernel, rfl⟩
theorem d_M_fight_161 : xk_d c_M_fight 161 (.aload_n 0) 1 162 := ⟨by decide +kernel, rfl⟩
theorem d_M_fight_162 : xk_d c_M_fight 162 (.getfield 35) 3 165 := ⟨by decide +kernel, rfl⟩
theorem d_M_fight_165 : xk_d c_M_fight 165 (.iload_n 1) 1 166 := ⟨by decide +kernel, rfl⟩
theorem d_M_fight_166 : xk_d c_M_fight 166 (.aload_n 0) 1 167 := ⟨by decide +kernel, rfl⟩
theorem d_M_fight_167 : xk_d c_M_fight 167 (.getfield 35) 3 170 := ⟨by decide +kernel, rfl⟩
theorem d_M_fight_170 : xk_d c_M_fight 170 (.iload_n 1) 1 171 := ⟨by decide +kernel, rfl⟩
theorem d_M_fight_171 : xk_d c_M_fight 171 (.iaload) 1 172 := ⟨by decide +kernel, rfl⟩
theorem d_M_fight_172 : xk_d c_M_fight 172 (.aload_n 0) 1 173 := ⟨by decide +kernel, rfl⟩
theorem d_M_fight_173 : xk_d c_M_fight 173 (.getfield 86) 3 176 := ⟨by decide +kernel, rfl⟩
theorem d_M_fight_176 : xk_d c_M_fight 176 (.iload_n 1) 1 177 := ⟨by decide +kernel, rfl⟩
theorem d_M_fight_177 : xk_d c_M_fight 177 (.iaload) 1 178 := ⟨by decide +kernel, rfl⟩
theorem d_M_fight_178 : xk_b c_M_fight 178 (.if_icmp .le 19) 181 (19) 197 := ⟨by decide +kernel, rfl, by decide⟩
theorem d_M_fight_181 : xk_d c_M_fight 181 (.aload_n 0) 1 182 := ⟨by decide +kernel, rfl⟩
theorem d_M_fight_182 : xk_d c_M_fight 182 (.getfield 35) 3 185 := ⟨by decide +kernel, rfl⟩
theorem d_M_fight_185 : xk_d c_M_fight 185 (.iload_n 1) 1 186 := ⟨by decide +kernel, rfl⟩
theorem d_M_fight_186 : xk_d c_M_fight 186 (.iaload) 1 187 := ⟨by decide +kernel, rfl⟩
theorem d_M_fight_187 : xk_d c_M_fight 187 (.aload_n 0) 1 188 := ⟨by decide +kernel, rfl⟩
theorem d_M_fight_188 : xk_d c_M_fight 188 (.getfield 86) 3 191 := ⟨by decide +kernel, rfl⟩
theorem d_M_fight_191 : xk_d c_M_fight 191 (.iload_n 1) 1 192 := ⟨by decide +kernel, rfl⟩
theorem d_M_fight_192 : xk_d c_M_fight 192 (.iaload) 1 193 := ⟨by decide +kernel, rfl⟩
theorem d_M_fight_193 : xk_d c_M_fight 193 (.isub) 1 194 := ⟨by decide +kernel, rfl⟩
theorem d_M_fight_194 : xk_b c_M_fight 194 (.goto 4) 197 (4) 198 := ⟨by decide +kernel, rfl, by decide⟩
end
section
/-! decode rows -/
theorem d_M_fight_197 : xk_d c_M_fight 197 (.iconst 0) 1 198 := ⟨by decide +kernel, rfl⟩
theorem d_M_fight_198 : xk_d c_M_fight 198 (.iastore) 1 199 := ⟨by decide +kernel, rfl⟩
theorem d_M_fight_199 : xk_d c_M_fight 199 (.iload_n 2) 1 200 := ⟨by decide +kernel, rfl⟩
theorem d_M_fight_200 : xk_b c_M_fight 200 (.ifCond .eq 22) 203 (22) 222 := ⟨by decide +kernel, rfl, by decide⟩
theorem d_M_fight_203 : xk_d c_M_fight 203 (.aload_n 0) 1 204 := ⟨by decide +kernel, rfl⟩
theorem d_M_fight_204 : xk_d c_M_fight 204 (.iload_n 1) 1 205 := ⟨by decide +kernel, rfl⟩
theorem d_M_fight_205 : xk_d c_M_fight 205 (.invokevirtual 121) 3 208 := ⟨by decide +kernel, rfl⟩
theorem d_M_fight_208 : xk_d c_M_fight 208 (.aload_n 0) 1 209 := ⟨by decide +kernel, rfl⟩
theorem d_M_fight_209 : xk_d c_M_fight 209 (.getfield 53) 3 212 := ⟨by decide +kernel, rfl⟩
theorem d_M_fight_212 : xk_d c_M_fight 212 (.iload_n 1) 1 213 := ⟨by decide +kernel, rfl⟩
theorem d_M_fight_213 : xk_d c_M_fight 213 (.iconst 0) 1 214 := ⟨by decide +kernel, rfl⟩
theorem d_M_fight_214 : xk_d c_M_fight 214 (.iastore) 1 215 := ⟨by decide +kernel, rfl⟩
theorem d_M_fight_215 : xk_d c_M_fight 215 (.aload_n 0) 1 216 := ⟨by decide +kernel, rfl⟩
theorem d_M_fight_216 : xk_d c_M_fight 216 (.getfield 47) 3 219 := ⟨by decide +kernel, rfl⟩
theorem d_M_fight_219 : xk_d c_M_fight 219 (.iload_n 1) 1 220 := ⟨by decide +kernel, rfl⟩
theorem d_M_fight_220 : xk_d c_M_fight 220 (.iconst 0) 1 221 := ⟨by decide +kernel, rfl⟩
theorem d_M_fight_221 : xk_d c_M_fight 221 (.iastore) 1 222 := ⟨by decide +kernel, rfl⟩
theorem d_M_fight_222 : xk_d c_M_fight 222 (.iinc 1 1) 3 225 := ⟨by decide +kernel, rfl⟩
theorem d_M_fight_225 : xk_b c_M_fight 225 (.goto (-102)) 228 (-102) 123 := ⟨by decide +kernel, rfl, by decide⟩
theorem d_M_fight_228 : xk_d c_M_fight 228 (.return_) 1 229 := ⟨by decide +kernel, rfl⟩
theorem d_M_play_0 : xk_d c_M_play 0 (.aload_n 0) 1 1 := ⟨by decide +kernel, rfl⟩
theorem d_M_play_1 : xk_d c_M_play 1 (.iload_n 1) 1 2 := ⟨by decide +kernel, rfl⟩
theorem d_M_play_2 : xk_d c_M_play 2 (.invokevirtual 136) 3 5 := ⟨by decide +kernel, rfl⟩
theorem d_M_play_5 : xk_d c_M_play 5 (.iconst 0) 1 6 := ⟨by decide +kernel, rfl⟩
theorem d_M_play_6 : xk_d c_M_play 6 (.istore_n 2) 1 7 := ⟨by decide +kernel, rfl⟩
theorem d_M_play_7 : xk_d c_M_play 7 (.iload_n 2) 1 8 := ⟨by decide +kernel, rfl⟩
theorem d_M_play_8 : xk_d c_M_play 8 (.aload_n 0) 1 9 := ⟨by decide +kernel, rfl⟩
theorem d_M_play_9 : xk_d c_M_play 9 (.getfield 89) 3 12 := ⟨by decide +kernel, rfl⟩
theorem d_M_play_12 : xk_b c_M_play 12 (.if_icmp .ge 32) 15 (32) 44 := ⟨by decide +kernel, rfl, by decide⟩
theorem d_M_play_15 : xk_d c_M_play 15 (.aload_n 0) 1 16 := ⟨by decide +kernel, rfl⟩
theorem d_M_play_16 : xk_d c_M_play 16 (.getfield 35) 3 19 := ⟨by decide +kernel, rfl⟩
theorem d_M_play_19 : xk_d c_M_play 19 (.iload_n 2) 1 20 := ⟨by decide +kernel, rfl⟩
theorem d_M_play_20 : xk_d c_M_play 20 (.iaload) 1 21 := ⟨by decide +kernel, rfl⟩
theorem d_M_play_21 : xk_b c_M_play 21 (.ifCond .le 17) 24 (17) 38 := ⟨by decide +kernel, rfl, by decide⟩
theorem d_M_play_24 : xk_d c_M_play 24 (.aload_n 0) 1 25 := ⟨by decide +kernel, rfl⟩
theorem d_M_play_25 : xk_d c_M_play 25 (.getfield 41) 3 28 := ⟨by decide +kernel, rfl⟩
theorem d_M_play_28 : xk_d c_M_play 28 (.iload_n 2) 1 29 := ⟨by decide +kernel, rfl⟩
theorem d_M_play_29 : xk_d c_M_play 29 (.iaload) 1 30 := ⟨by decide +kernel, rfl⟩
theorem d_M_play_30 : xk_b c_M_play 30 (.ifCond .eq 8) 33 (8) 38 := ⟨by decide +kernel, rfl, by decide⟩
theorem d_M_play_33 : xk_d c_M_play 33 (.aload_n 0) 1 34 := ⟨by decide +kernel, rfl⟩
theorem d_M_play_34 : xk_d c_M_play 34 (.iload_n 2) 1 35 := ⟨by decide +kernel, rfl⟩
theorem d_M_play_35 : xk_d c_M_play 35 (.invokevirtual 139) 3 38 := ⟨by decide +kernel, rfl⟩
theorem d_M_play_38 : xk_d c_M_play 38 (.iinc 2 1) 3 41 := ⟨by decide +kernel, rfl⟩
theorem d_M_play_41 : xk_b c_M_play 41 (.goto (-34)) 44 (-34) 7 := ⟨by decide +kernel, rfl, by decide⟩
theorem d_M_play_44 : xk_d c_M_play 44 (.aload_n 0) 1 45 := ⟨by decide +kernel, rfl⟩
theorem d_M_play_45 : xk_d c_M_play 45 (.invokevirtual 142) 3 48 := ⟨by decide +kernel, rfl⟩
theorem d_M_play_48 : xk_d c_M_play 48 (.iconst 0) 1 49 := ⟨by decide +kernel, rfl⟩
theorem d_M_play_49 : xk_d c_M_play 49 (.istore_n 2) 1 50 := ⟨by decide +kernel, rfl⟩
theorem d_M_play_50 : xk_d c_M_play 50 (.iload_n 2) 1 51 := ⟨by decide +kernel, rfl⟩
theorem d_M_play_51 : xk_d c_M_play 51 (.aload_n 0) 1 52 := ⟨by decide +kernel, rfl⟩
theorem d_M_play_52 : xk_d c_M_play 52 (.getfield 89) 3 55 := ⟨by decide +kernel, rfl⟩
theorem d_M_play_55 : xk_b c_M_play 55 (.if_icmp .ge 64) 58 (64) 119 := ⟨by decide +kernel, rfl, by decide⟩
theorem d_M_play_58 : xk_d c_M_play 58 (.iload_n 1) 1 59 := ⟨by decide +kernel, rfl⟩
theorem d_M_play_59 : xk_d c_M_play 59 (.iconst 4) 1 60 := ⟨by decide +kernel, rfl⟩
theorem d_M_play_60 : xk_d c_M_play 60 (.irem) 1 61 := ⟨by decide +kernel, rfl⟩
theorem d_M_play_61 : xk_d c_M_play 61 (.iconst 3) 1 62 := ⟨by decide +kernel, rfl⟩
theorem d_M_play_62 : xk_b c_M_play 62 (.if_icmp .ne 57) 65 (57) 119 := ⟨by decide +kernel, rfl, by decide⟩
theorem d_M_play_65 : xk_d c_M_play 65 (.aload_n 0) 1 66 := ⟨by decide +kernel, rfl⟩
theorem d_M_play_66 : xk_d c_M_play 66 (.getfield 35) 3 69 := ⟨by decide +kernel, rfl⟩
theorem d_M_play_69 : xk_d c_M_play 69 (.iload_n 2) 1 70 := ⟨by decide +kernel, rfl⟩
theorem d_M_play_70 : xk_d c_M_play 70 (.iaload) 1 71 := ⟨by decide +kernel, rfl⟩
theorem d_M_play_71 : xk_b c_M_play 71 (.ifCond .le 42) 74 (42) 113 := ⟨by decide +kernel, rfl, by decide⟩
theorem d_M_play_74 : xk_d c_M_play 74 (.aload_n 0) 1 75 := ⟨by decide +kernel, rfl⟩
theorem d_M_play_75 : xk_d c_M_play 75 (.getfield 35) 3 78 := ⟨by decide +kernel, rfl⟩
theorem d_M_play_78 : xk_d c_M_play 78 (.iload_n 2) 1 79 := ⟨by decide +kernel, rfl⟩
theorem d_M_play_79 : xk_d c_M_play 79 (.iaload) 1 80 := ⟨by decide +kernel, rfl⟩
theorem d_M_play_80 : xk_d c_M_play 80 (.bipush 20) 2 82 := ⟨by decide +kernel, rfl⟩
theorem d_M_play_82 : xk_b c_M_play 82 (.if_icmp .ge 31) 85 (31) 113 := ⟨by decide +kernel, rfl, by decide⟩
theorem d_M_play_85 : xk_d c_M_play 85 (.aload_n 0) 1 86 := ⟨by decide +kernel, rfl⟩
theorem d_M_play_86 : xk_d c_M_play 86 (.getfield 41) 3 89 := ⟨by decide +kernel, rfl⟩
theorem d_M_play_89 : xk_d c_M_play 89 (.iload_n 2) 1 90 := ⟨by decide +kernel, rfl⟩
theorem d_M_play_90 : xk_d c_M_play 90 (.iaload) 1 91 := ⟨by decide +kernel, rfl⟩
theorem d_M_play_91 : xk_b c_M_play 91 (.ifCond .ne 22) 94 (22) 113 := ⟨by decide +kernel, rfl, by decide⟩
theorem d_M_play_94 : xk_d c_M_play 94 (.aload_n 0) 1 95 := ⟨by decide +kernel, rfl⟩
theorem d_M_play_95 : xk_d c_M_play 95 (.getfield 86) 3 98 := ⟨by decide +kernel, rfl⟩
theorem d_M_play_98 : xk_d c_M_play 98 (.iload_n 2) 1 99 := ⟨by decide +kernel, rfl⟩
theorem d_M_play_99 : xk_d c_M_play 99 (.iaload) 1 100 := ⟨by decide +kernel, rfl⟩
theorem d_M_play_100 : xk_b c_M_play 100 (.ifCond .ne 13) 103 (13) 113 := ⟨by decide +kernel, rfl, by decide⟩
theorem d_M_play_103 : xk_d c_M_play 103 (.aload_n 0) 1 104 := ⟨by decide +kernel, rfl⟩
theorem d_M_play_104 : xk_d c_M_play 104 (.getfield 35) 3 107 := ⟨by decide +kernel, rfl⟩
theorem d_M_play_107 : xk_d c_M_play 107 (.iload_n 2) 1 108 := ⟨by decide +kernel, rfl⟩
theorem d_M_play_108 : xk_d c_M_play 108 (.dup2) 1 109 := ⟨by decide +kernel, rfl⟩
theorem d_M_play_109 : xk_d c_M_play 109 (.iaload) 1 110 := ⟨by decide +kernel, rfl⟩
theorem d_M_play_110 : xk_d c_M_play 110 (.iconst 1) 1 111 := ⟨by decide +kernel, rfl⟩
theorem d_M_play_111 : xk_d c_M_play 111 (.iadd) 1 112 := ⟨by decide +kernel, rfl⟩
theorem d_M_play_112 : xk_d c_M_play 112 (.iastore) 1 113 := ⟨by decide +kernel, rfl⟩
theorem d_M_play_113 : xk_d c_M_play 113 (.iinc 2 1) 3 116 := ⟨by decide +kernel, rfl⟩
theorem d_M_play_116 : xk_b c_M_play 116 (.goto (-66)) 119 (-66) 50 := ⟨by decide +kernel, rfl, by decide⟩
theorem d_M_play_119 : xk_d c_M_play 119 (.bipush 17) 2 121 := ⟨by decide +kernel, rfl⟩
theorem d_M_play_121 : xk_d c_M_play 121 (.istore_n 2) 1 122 := ⟨by decide +kernel, rfl⟩
theorem d_M_play_122 : xk_d c_M_play 122 (.iconst 0) 1 123 := ⟨by decide +kernel, rfl⟩
theorem d_M_play_123 : xk_d c_M_play 123 (.istore_n 3) 1 124 := ⟨by decide +kernel, rfl⟩
theorem d_M_play_124 : xk_d c_M_play 124 (.iload_n 3) 1 125 := ⟨by decide +kernel, rfl⟩
theorem d_M_play_125 : xk_d c_M_play 125 (.aload_n 0) 1 126 := ⟨by decide +kernel, rfl⟩
theorem d_M_play_126 : xk_d c_M_play 126 (.getfield 89) 3 129 := ⟨by decide +kernel, rfl⟩
theorem d_M_play_129 : xk_b c_M_play 129 (.if_icmp .ge 66) 132 (66) 195 := ⟨by decide +kernel, rfl, by decide⟩
theorem d_M_play_132 : xk_d c_M_play 132 (.bipush 31) 2 134 := ⟨by decide +kernel, rfl⟩
theorem d_M_play_134 : xk_d c_M_play 134 (.iload_n 2) 1 135 := ⟨by decide +kernel, rfl⟩
theorem d_M_play_135 : xk_d c_M_play 135 (.imul) 1 136 := ⟨by decide +kernel, rfl⟩
theorem d_M_play_136 : xk_d c_M_play 136 (.bipush 64) 2 138 := ⟨by decide +kernel, rfl⟩
theorem d_M_play_138 : xk_d c_M_play 138 (.aload_n 0) 1 139 := ⟨by decide +kernel, rfl⟩
theorem d_M_play_139 : xk_d c_M_play 139 (.getfield 35) 3 142 := ⟨by decide +kernel, rfl⟩
theorem d_M_play_142 : xk_d c_M_play 142 (.iload_n 3) 1 143 := ⟨by decide +kernel, rfl⟩
theorem d_M_play_143 : xk_d c_M_play 143 (.iaload) 1 144 := ⟨by decide +kernel, rfl⟩
theorem d_M_play_144 : xk_d c_M_play 144 (.imul) 1 145 := ⟨by decide +kernel, rfl⟩
theorem d_M_play_145 : xk_d c_M_play 145 (.iadd) 1 146 := ⟨by decide +kernel, rfl⟩
theorem d_M_play_146 : xk_d c_M_play 146 (.aload_n 0) 1 147 := ⟨by decide +kernel, rfl⟩
theorem d_M_play_147 : xk_d c_M_play 147 (.getfield 35) 3 150 := ⟨by decide +kernel, rfl⟩
theorem d_M_play_150 : xk_d c_M_play 150 (.iload_n 3) 1 151 := ⟨by decide +kernel, rfl⟩
theorem d_M_play_151 : xk_d c_M_play 151 (.iaload) 1 152 := ⟨by decide +kernel, rfl⟩
theorem d_M_play_152 : xk_b c_M_play 152 (.ifCond .le 12) 155 (12) 164 := ⟨by decide +kernel, rfl, by decide⟩
theorem d_M_play_155 : xk_d c_M_play 155 (.aload_n 0) 1 156 := ⟨by decide +kernel, rfl⟩
theorem d_M_play_156 : xk_d c_M_play 156 (.getfield 38) 3 159 := ⟨by decide +kernel, rfl⟩
theorem d_M_play_159 : xk_d c_M_play 159 (.iload_n 3) 1 160 := ⟨by decide +kernel, rfl⟩
theorem d_M_play_160 : xk_d c_M_play 160 (.iaload) 1 161 := ⟨by decide +kernel, rfl⟩
theorem d_M_play_161 : xk_b c_M_play 161 (.goto 4) 164 (4) 165 := ⟨by decide +kernel, rfl, by decide⟩
theorem d_M_play_164 : xk_d c_M_play 164 (.iconst 0) 1 165 := ⟨by decide +kernel, rfl⟩
theorem d_M_play_165 : xk_d c_M_play 165 (.iadd) 1 166 := ⟨by decide +kernel, rfl⟩
theorem d_M_play_166 : xk_d c_M_play 166 (.istore_n 2) 1 167 := ⟨by decide +kernel, rfl⟩
theorem d_M_play_167 : xk_d c_M_play 167 (.bipush 31) 2 169 := ⟨by decide +kernel, rfl⟩
theorem d_M_play_169 : xk_d c_M_play 169 (.iload_n 2) 1 170 := ⟨by decide +kernel, rfl⟩
theorem d_M_play_170 : xk_d c_M_play 170 (.imul) 1 171 := ⟨by decide +kernel, rfl⟩
theorem d_M_play_171 : xk_d c_M_play 171 (.bipush 8) 2 173 := ⟨by decide +kernel, rfl⟩
theorem d_M_play_173 : xk_d c_M_play 173 (.aload_n 0) 1 174 := ⟨by decide +kernel, rfl⟩
theorem d_M_play_174 : xk_d c_M_play 174 (.getfield 47) 3 177 := ⟨by decide +kernel, rfl⟩
theorem d_M_play_177 : xk_d c_M_play 177 (.iload_n 3) 1 178 := ⟨by decide +kernel, rfl⟩
theorem d_M_play_178 : xk_d c_M_play 178 (.iaload) 1 179 := ⟨by decide +kernel, rfl⟩
theorem d_M_play_179 : xk_d c_M_play 179 (.imul) 1 180 := ⟨by decide +kernel, rfl⟩
theorem d_M_play_180 : xk_d c_M_play 180 (.iadd) 1 181 := ⟨by decide +kernel, rfl⟩
theorem d_M_play_181 : xk_d c_M_play 181 (.aload_n 0) 1 182 := ⟨by decide +kernel, rfl⟩
theorem d_M_play_182 : xk_d c_M_play 182 (.getfield 41) 3 185 := ⟨by decide +kernel, rfl⟩
theorem d_M_play_185 : xk_d c_M_play 185 (.iload_n 3) 1 186 := ⟨by decide +kernel, rfl⟩
theorem d_M_play_186 : xk_d c_M_play 186 (.iaload) 1 187 := ⟨by decide +kernel, rfl⟩
theorem d_M_play_187 : xk_d c_M_play 187 (.iadd) 1 188 := ⟨by decide +kernel, rfl⟩
theorem d_M_play_188 : xk_d c_M_play 188 (.istore_n 2) 1 189 := ⟨by decide +kernel, rfl⟩
theorem d_M_play_189 : xk_d c_M_play 189 (.iinc 3 1) 3 192 := ⟨by decide +kernel, rfl⟩
theorem d_M_play_192 : xk_b c_M_play 192 (.goto (-68)) 195 (-68) 124 := ⟨by decide +kernel, rfl, by decide⟩
theorem d_M_play_195 : xk_d c_M_play 195 (.iload_n 2) 1 196 := ⟨by decide +kernel, rfl⟩
theorem d_M_play_196 : xk_d c_M_play 196 (.ireturn) 1 197 := ⟨by decide +kernel, rfl⟩
theorem d_M_run_0 : xk_d c_M_run 0 (.iload_n 1) 1 1 := ⟨by decide +kernel, rfl⟩
theorem d_M_run_1 : xk_d c_M_run 1 (.iconst 1) 1 2 := ⟨by decide +kernel, rfl⟩
theorem d_M_run_2 : xk_b c_M_run 2 (.if_icmp .lt 9) 5 (9) 11 := ⟨by decide +kernel, rfl, by decide⟩
theorem d_M_run_5 : xk_d c_M_run 5 (.iload_n 1) 1 6 := ⟨by decide +kernel, rfl⟩
theorem d_M_run_6 : xk_d c_M_run 6 (.bipush 20) 2 8 := ⟨by decide +kernel, rfl⟩
theorem d_M_run_8 : xk_b c_M_run 8 (.if_icmp .le 5) 11 (5) 13 := ⟨by decide +kernel, rfl, by decide⟩
theorem d_M_run_11 : xk_d c_M_run 11 (.iconst (-1)) 1 12 := ⟨by decide +kernel, rfl⟩
theorem d_M_run_12 : xk_d c_M_run 12 (.ireturn) 1 13 := ⟨by decide +kernel, rfl⟩
theorem d_M_run_13 : xk_d c_M_run 13 (.aload_n 0) 1 14 := ⟨by decide +kernel, rfl⟩
theorem d_M_run_14 : xk_d c_M_run 14 (.getfield 93) 3 17 := ⟨by decide +kernel, rfl⟩
theorem d_M_run_17 : xk_b c_M_run 17 (.ifCond .ne 6) 20 (6) 23 := ⟨by decide +kernel, rfl, by decide⟩
theorem d_M_run_20 : xk_d c_M_run 20 (.bipush (-3)) 2 22 := ⟨by decide +kernel, rfl⟩
theorem d_M_run_22 : xk_d c_M_run 22 (.ireturn) 1 23 := ⟨by decide +kernel, rfl⟩
theorem d_M_run_23 : xk_d c_M_run 23 (.aload_n 0) 1 24 := ⟨by decide +kernel, rfl⟩
theorem d_M_run_24 : xk_d c_M_run 24 (.getfield 107) 3 27 := ⟨by decide +kernel, rfl⟩
theorem d_M_run_27 : xk_d c_M_run 27 (.iload_n 1) 1 28 := ⟨by decide +kernel, rfl⟩
theorem d_M_run_28 : xk_d c_M_run 28 (.iadd) 1 29 := ⟨by decide +kernel, rfl⟩
theorem d_M_run_29 : xk_d c_M_run 29 (.sipush 200) 3 32 := ⟨by decide +kernel, rfl⟩
theorem d_M_run_32 : xk_b c_M_run 32 (.if_icmp .le 6) 35 (6) 38 := ⟨by decide +kernel, rfl, by decide⟩
theorem d_M_run_35 : xk_d c_M_run 35 (.bipush (-2)) 2 37 := ⟨by decide +kernel, rfl⟩
theorem d_M_run_37 : xk_d c_M_run 37 (.ireturn) 1 38 := ⟨by decide +kernel, rfl⟩
theorem d_M_run_38 : xk_d c_M_run 38 (.iconst 0) 1 39 := ⟨by decide +kernel, rfl⟩
theorem d_M_run_39 : xk_d c_M_run 39 (.istore_n 2) 1 40 := ⟨by decide +kernel, rfl⟩
theorem d_M_run_40 : xk_d c_M_run 40 (.iload_n 2) 1 41 := ⟨by decide +kernel, rfl⟩
theorem d_M_run_41 : xk_d c_M_run 41 (.iload_n 1) 1 42 := ⟨by decide +kernel, rfl⟩
theorem d_M_run_42 : xk_b c_M_run 42 (.if_icmp .ge 36) 45 (36) 78 := ⟨by decide +kernel, rfl, by decide⟩
theorem d_M_run_45 : xk_d c_M_run 45 (.aload_n 0) 1 46 := ⟨by decide +kernel, rfl⟩
theorem d_M_run_46 : xk_d c_M_run 46 (.getfield 20) 3 49 := ⟨by decide +kernel, rfl⟩
theorem d_M_run_49 : xk_d c_M_run 49 (.aload_n 0) 1 50 := ⟨by decide +kernel, rfl⟩
theorem d_M_run_50 : xk_d c_M_run 50 (.getfield 107) 3 53 := ⟨by decide +kernel, rfl⟩
theorem d_M_run_53 : xk_d c_M_run 53 (.aload_n 0) 1 54 := ⟨by decide +kernel, rfl⟩
theorem d_M_run_54 : xk_d c_M_run 54 (.aload_n 0) 1 55 := ⟨by decide +kernel, rfl⟩
theorem d_M_run_55 : xk_d c_M_run 55 (.getfield 107) 3 58 := ⟨by decide +kernel, rfl⟩
theorem d_M_run_58 : xk_d c_M_run 58 (.invokevirtual 145) 3 61 := ⟨by decide +kernel, rfl⟩
theorem d_M_run_61 : xk_d c_M_run 61 (.iastore) 1 62 := ⟨by decide +kernel, rfl⟩
theorem d_M_run_62 : xk_d c_M_run 62 (.aload_n 0) 1 63 := ⟨by decide +kernel, rfl⟩
theorem d_M_run_63 : xk_d c_M_run 63 (.dup) 1 64 := ⟨by decide +kernel, rfl⟩
theorem d_M_run_64 : xk_d c_M_run 64 (.getfield 107) 3 67 := ⟨by decide +kernel, rfl⟩
theorem d_M_run_67 : xk_d c_M_run 67 (.iconst 1) 1 68 := ⟨by decide +kernel, rfl⟩
theorem d_M_run_68 : xk_d c_M_run 68 (.iadd) 1 69 := ⟨by decide +kernel, rfl⟩
theorem d_M_run_69 : xk_d c_M_run 69 (.putfield 107) 3 72 := ⟨by decide +kernel, rfl⟩
theorem d_M_run_72 : xk_d c_M_run 72 (.iinc 2 1) 3 75 := ⟨by decide +kernel, rfl⟩
theorem d_M_run_75 : xk_b c_M_run 75 (.goto (-35)) 78 (-35) 40 := ⟨by decide +kernel, rfl, by decide⟩
theorem d_M_run_78 : xk_d c_M_run 78 (.aload_n 0) 1 79 := ⟨by decide +kernel, rfl⟩
theorem d_M_run_79 : xk_d c_M_run 79 (.getfield 107) 3 82 := ⟨by decide +kernel, rfl⟩
theorem d_M_run_82 : xk_d c_M_run 82 (.ireturn) 1 83 := ⟨by decide +kernel, rfl⟩
theorem d_M_layAside_0 : xk_d c_M_layAside 0 (.iconst 0) 1 1 := ⟨by decide +kernel, rfl⟩
theorem d_M_layAside_1 : xk_d c_M_layAside 1 (.istore_n 1) 1 2 := ⟨by decide +kernel, rfl⟩
theorem d_M_layAside_2 : xk_d c_M_layAside 2 (.iload_n 1) 1 3 := ⟨by decide +kernel, rfl⟩
theorem d_M_layAside_3 : xk_d c_M_layAside 3 (.bipush 8) 2 5 := ⟨by decide +kernel, rfl⟩
theorem d_M_layAside_5 : xk_b c_M_layAside 5 (.if_icmp .ge 81) 8 (81) 86 := ⟨by decide +kernel, rfl, by decide⟩
theorem d_M_layAside_8 : xk_d c_M_layAside 8 (.aload_n 0) 1 9 := ⟨by decide +kernel, rfl⟩
theorem d_M_layAside_9 : xk_d c_M_layAside 9 (.getfield 56) 3 12 := ⟨by decide +kernel, rfl⟩
theorem d_M_layAside_12 : xk_d c_M_layAside 12 (.iload_n 1) 1 13 := ⟨by decide +kernel, rfl⟩
theorem d_M_layAside_13 : xk_d c_M_layAside 13 (.aload_n 0) 1 14 := ⟨by decide +kernel, rfl⟩
theorem d_M_layAside_14 : xk_d c_M_layAside 14 (.getfield 35) 3 17 := ⟨by decide +kernel, rfl⟩
theorem d_M_layAside_17 : xk_d c_M_layAside 17 (.iload_n 1) 1 18 := ⟨by decide +kernel, rfl⟩
theorem d_M_layAside_18 : xk_d c_M_layAside 18 (.iaload) 1 19 := ⟨by decide +kernel, rfl⟩
theorem d_M_layAside_19 : xk_d c_M_layAside 19 (.iastore) 1 20 := ⟨by decide +kernel, rfl⟩
theorem d_M_layAside_20 : xk_d c_M_layAside 20 (.aload_n 0) 1 21 := ⟨by decide +kernel, rfl⟩
theorem d_M_layAside_21 : xk_d c_M_layAside 21 (.getfield 59) 3 24 := ⟨by decide +kernel, rfl⟩
theorem d_M_layAside_24 : xk_d c_M_layAside 24 (.iload_n 1) 1 25 := ⟨by decide +kernel, rfl⟩
theorem d_M_layAside_25 : xk_d c_M_layAside 25 (.aload_n 0) 1 26 := ⟨by decide +kernel, rfl⟩
theorem d_M_layAside_26 : xk_d c_M_layAside 26 (.getfield 38) 3 29 := ⟨by decide +kernel, rfl⟩
theorem d_M_layAside_29 : xk_d c_M_layAside 29 (.iload_n 1) 1 30 := ⟨by decide +kernel, rfl⟩
theorem d_M_layAside_30 : xk_d c_M_layAside 30 (.iaload) 1 31 := ⟨by decide +kernel, rfl⟩
theorem d_M_layAside_31 : xk_d c_M_layAside 31 (.iastore) 1 32 := ⟨by decide +kernel, rfl⟩
theorem d_M_layAside_32 : xk_d c_M_layAside 32 (.aload_n 0) 1 33 := ⟨by decide +kernel, rfl⟩
theorem d_M_layAside_33 : xk_d c_M_layAside 33 (.getfield 62) 3 36 := ⟨by decide +kernel, rfl⟩
theorem d_M_layAside_36 : xk_d c_M_layAside 36 (.iload_n 1) 1 37 := ⟨by decide +kernel, rfl⟩
theorem d_M_layAside_37 : xk_d c_M_layAside 37 (.aload_n 0) 1 38 := ⟨by decide +kernel, rfl⟩
theorem d_M_layAside_38 : xk_d c_M_layAside 38 (.getfield 41) 3 41 := ⟨by decide +kernel, rfl⟩
theorem d_M_layAside_41 : xk_d c_M_layAside 41 (.iload_n 1) 1 42 := ⟨by decide +kernel, rfl⟩
theorem d_M_layAside_42 : xk_d c_M_layAside 42 (.iaload) 1 43 := ⟨by decide +kernel, rfl⟩
theorem d_M_layAside_43 : xk_d c_M_layAside 43 (.iastore) 1 44 := ⟨by decide +kernel, rfl⟩
theorem d_M_layAside_44 : xk_d c_M_layAside 44 (.aload_n 0) 1 45 := ⟨by decide +kernel, rfl⟩
theorem d_M_layAside_45 : xk_d c_M_layAside 45 (.getfield 65) 3 48 := ⟨by decide +kernel, rfl⟩
theorem d_M_layAside_48 : xk_d c_M_layAside 48 (.iload_n 1) 1 49 := ⟨by decide +kernel, rfl⟩
theorem d_M_layAside_49 : xk_d c_M_layAside 49 (.aload_n 0) 1 50 := ⟨by decide +kernel, rfl⟩
theorem d_M_layAside_50 : xk_d c_M_layAside 50 (.getfield 44) 3 53 := ⟨by decide +kernel, rfl⟩
theorem d_M_layAside_53 : xk_d c_M_layAside 53 (.iload_n 1) 1 54 := ⟨by decide +kernel, rfl⟩
theorem d_M_layAside_54 : xk_d c_M_layAside 54 (.iaload) 1 55 := ⟨by decide +kernel, rfl⟩
theorem d_M_layAside_55 : xk_d c_M_layAside 55 (.iastore) 1 56 := ⟨by decide +kernel, rfl⟩
theorem d_M_layAside_56 : xk_d c_M_layAside 56 (.aload_n 0) 1 57 := ⟨by decide +kernel, rfl⟩
theorem d_M_layAside_57 : xk_d c_M_layAside 57 (.getfield 68) 3 60 := ⟨by decide +kernel, rfl⟩
theorem d_M_layAside_60 : xk_d c_M_layAside 60 (.iload_n 1) 1 61 := ⟨by decide +kernel, rfl⟩
theorem d_M_layAside_61 : xk_d c_M_layAside 61 (.aload_n 0) 1 62 := ⟨by decide +kernel, rfl⟩
theorem d_M_layAside_62 : xk_d c_M_layAside 62 (.getfield 47) 3 65 := ⟨by decide +kernel, rfl⟩
theorem d_M_layAside_65 : xk_d c_M_layAside 65 (.iload_n 1) 1 66 := ⟨by decide +kernel, rfl⟩
theorem d_M_layAside_66 : xk_d c_M_layAside 66 (.iaload) 1 67 := ⟨by decide +kernel, rfl⟩
theorem d_M_layAside_67 : xk_d c_M_layAside 67 (.iastore) 1 68 := ⟨by decide +kernel, rfl⟩
theorem d_M_layAside_68 : xk_d c_M_layAside 68 (.aload_n 0) 1 69 := ⟨by decide +kernel, rfl⟩
theorem d_M_layAside_69 : xk_d c_M_layAside 69 (.getfield 74) 3 72 := ⟨by decide +kernel, rfl⟩
theorem d_M_layAside_72 : xk_d c_M_layAside 72 (.iload_n 1) 1 73 := ⟨by decide +kernel, rfl⟩
theorem d_M_layAside_73 : xk_d c_M_layAside 73 (.aload_n 0) 1 74 := ⟨by decide +kernel, rfl⟩
theorem d_M_layAside_74 : xk_d c_M_layAside 74 (.getfield 53) 3 77 := ⟨by decide +kernel, rfl⟩
theorem d_M_layAside_77 : xk_d c_M_layAside 77 (.iload_n 1) 1 78 := ⟨by decide +kernel, rfl⟩
theorem d_M_layAside_78 : xk_d c_M_layAside 78 (.iaload) 1 79 := ⟨by decide +kernel, rfl⟩
theorem d_M_layAside_79 : xk_d c_M_layAside 79 (.iastore) 1 80 := ⟨by decide +kernel, rfl⟩
theorem d_M_layAside_80 : xk_d c_M_layAside 80 (.iinc 1 1) 3 83 := ⟨by decide +kernel, rfl⟩
theorem d_M_layAside_83 : xk_b c_M_layAside 83 (.goto (-81)) 86 (-81) 2 := ⟨by decide +kernel, rfl, by decide⟩
theorem d_M_layAside_86 : xk_d c_M_layAside 86 (.iconst 0) 1 87 := ⟨by decide +kernel, rfl⟩
theorem d_M_layAside_87 : xk_d c_M_layAside 87 (.istore_n 1) 1 88 := ⟨by decide +kernel, rfl⟩
theorem d_M_layAside_88 : xk_d c_M_layAside 88 (.iload_n 1) 1 89 := ⟨by decide +kernel, rfl⟩
theorem d_M_layAside_89 : xk_d c_M_layAside 89 (.sipush 512) 3 92 := ⟨by decide +kernel, rfl⟩
theorem d_M_layAside_92 : xk_b c_M_layAside 92 (.if_icmp .ge 21) 95 (21) 113 := ⟨by decide +kernel, rfl, by decide⟩
theorem d_M_layAside_95 : xk_d c_M_layAside 95 (.aload_n 0) 1 96 := ⟨by decide +kernel, rfl⟩
theorem d_M_layAside_96 : xk_d c_M_layAside 96 (.getfield 71) 3 99 := ⟨by decide +kernel, rfl⟩
theorem d_M_layAside_99 : xk_d c_M_layAside 99 (.iload_n 1) 1 100 := ⟨by decide +kernel, rfl⟩
theorem d_M_layAside_100 : xk_d c_M_layAside 100 (.aload_n 0) 1 101 := ⟨by decide +kernel, rfl⟩
theorem d_M_layAside_101 : xk_d c_M_layAside 101 (.getfield 50) 3 104 := ⟨by decide +kernel, rfl⟩
theorem d_M_layAside_104 : xk_d c_M_layAside 104 (.iload_n 1) 1 105 := ⟨by decide +kernel, rfl⟩
theorem d_M_layAside_105 : xk_d c_M_layAside 105 (.iaload) 1 106 := ⟨by decide +kernel, rfl⟩
theorem d_M_layAside_106 : xk_d c_M_layAside 106 (.iastore) 1 107 := ⟨by decide +kernel, rfl⟩
theorem d_M_layAside_107 : xk_d c_M_layAside 107 (.iinc 1 1) 3 110 := ⟨by decide +kernel, rfl⟩
theorem d_M_layAside_110 : xk_b c_M_layAside 110 (.goto (-22)) 113 (-22) 88 := ⟨by decide +kernel, rfl, by decide⟩
theorem d_M_layAside_113 : xk_d c_M_layAside 113 (.return_) 1 114 := ⟨by decide +kernel, rfl⟩
theorem d_M_putBack_0 : xk_d c_M_putBack 0 (.iconst 0) 1 1 := ⟨by decide +kernel, rfl⟩
theorem d_M_putBack_1 : xk_d c_M_putBack 1 (.istore_n 1) 1 2 := ⟨by decide +kernel, rfl⟩
theorem d_M_putBack_2 : xk_d c_M_putBack 2 (.iload_n 1) 1 3 := ⟨by decide +kernel, rfl⟩
theorem d_M_putBack_3 : xk_d c_M_putBack 3 (.bipush 8) 2 5 := ⟨by decide +kernel, rfl⟩
theorem d_M_putBack_5 : xk_b c_M_putBack 5 (.if_icmp .ge 81) 8 (81) 86 := ⟨by decide +kernel, rfl, by decide⟩
theorem d_M_putBack_8 : xk_d c_M_putBack 8 (.aload_n 0) 1 9 := ⟨by decide +kernel, rfl⟩
theorem d_M_putBack_9 : xk_d c_M_putBack 9 (.getfield 35) 3 12 := ⟨by decide +kernel, rfl⟩
theorem d_M_putBack_12 : xk_d c_M_putBack 12 (.iload_n 1) 1 13 := ⟨by decide +kernel, rfl⟩
theorem d_M_putBack_13 : xk_d c_M_putBack 13 (.aload_n 0) 1 14 := ⟨by decide +kernel, rfl⟩
theorem d_M_putBack_14 : xk_d c_M_putBack 14 (.getfield 56) 3 17 := ⟨by decide +kernel, rfl⟩
theorem d_M_putBack_17 : xk_d c_M_putBack 17 (.iload_n 1) 1 18 := ⟨by decide +kernel, rfl⟩
theorem d_M_putBack_18 : xk_d c_M_putBack 18 (.iaload) 1 19 := ⟨by decide +kernel, rfl⟩
theorem d_M_putBack_19 : xk_d c_M_putBack 19 (.iastore) 1 20 := ⟨by decide +kernel, rfl⟩
theorem d_M_putBack_20 : xk_d c_M_putBack 20 (.aload_n 0) 1 21 := ⟨by decide +kernel, rfl⟩
theorem d_M_putBack_21 : xk_d c_M_putBack 21 (.getfield 38) 3 24 := ⟨by decide +kernel, rfl⟩
theorem d_M_putBack_24 : xk_d c_M_putBack 24 (.iload_n 1) 1 25 := ⟨by decide +kernel, rfl⟩
theorem d_M_putBack_25 : xk_d c_M_putBack 25 (.aload_n 0) 1 26 := ⟨by decide +kernel, rfl⟩
theorem d_M_putBack_26 : xk_d c_M_putBack 26 (.getfield 59) 3 29 := ⟨by decide +kernel, rfl⟩
theorem d_M_putBack_29 : xk_d c_M_putBack 29 (.iload_n 1) 1 30 := ⟨by decide +kernel, rfl⟩
theorem d_M_putBack_30 : xk_d c_M_putBack 30 (.iaload) 1 31 := ⟨by decide +kernel, rfl⟩
theorem d_M_putBack_31 : xk_d c_M_putBack 31 (.iastore) 1 32 := ⟨by decide +kernel, rfl⟩
theorem d_M_putBack_32 : xk_d c_M_putBack 32 (.aload_n 0) 1 33 := ⟨by decide +kernel, rfl⟩
theorem d_M_putBack_33 : xk_d c_M_putBack 33 (.getfield 41) 3 36 := ⟨by decide +kernel, rfl⟩
theorem d_M_putBack_36 : xk_d c_M_putBack 36 (.iload_n 1) 1 37 := ⟨by decide +kernel, rfl⟩
theorem d_M_putBack_37 : xk_d c_M_putBack 37 (.aload_n 0) 1 38 := ⟨by decide +kernel, rfl⟩
theorem d_M_putBack_38 : xk_d c_M_putBack 38 (.getfield 62) 3 41 := ⟨by decide +kernel, rfl⟩
theorem d_M_putBack_41 : xk_d c_M_putBack 41 (.iload_n 1) 1 42 := ⟨by decide +kernel, rfl⟩
theorem d_M_putBack_42 : xk_d c_M_putBack 42 (.iaload) 1 43 := ⟨by decide +kernel, rfl⟩
theorem d_M_putBack_43 : xk_d c_M_putBack 43 (.iastore) 1 44 := ⟨by decide +kernel, rfl⟩
theorem d_M_putBack_44 : xk_d c_M_putBack 44 (.aload_n 0) 1 45 := ⟨by decide +kernel, rfl⟩
theorem d_M_putBack_45 : xk_d c_M_putBack 45 (.getfield 44) 3 48 := ⟨by decide +kernel, rfl⟩
theorem d_M_putBack_48 : xk_d c_M_putBack 48 (.iload_n 1) 1 49 := ⟨by decide +kernel, rfl⟩
theorem d_M_putBack_49 : xk_d c_M_putBack 49 (.aload_n 0) 1 50 := ⟨by decide +kernel, rfl⟩
theorem d_M_putBack_50 : xk_d c_M_putBack 50 (.getfield 65) 3 53 := ⟨by decide +kernel, rfl⟩
theorem d_M_putBack_53 : xk_d c_M_putBack 53 (.iload_n 1) 1 54 := ⟨by decide +kernel, rfl⟩
theorem d_M_putBack_54 : xk_d c_M_putBack 54 (.iaload) 1 55 := ⟨by decide +kernel, rfl⟩
theorem d_M_putBack_55 : xk_d c_M_putBack 55 (.iastore) 1 56 := ⟨by decide +kernel, rfl⟩
theorem d_M_putBack_56 : xk_d c_M_putBack 56 (.aload_n 0) 1 57 := ⟨by decide +kernel, rfl⟩
theorem d_M_putBack_57 : xk_d c_M_putBack 57 (.getfield 47) 3 60 := ⟨by decide +kernel, rfl⟩
theorem d_M_putBack_60 : xk_d c_M_putBack 60 (.iload_n 1) 1 61 := ⟨by decide +kernel, rfl⟩
theorem d_M_putBack_61 : xk_d c_M_putBack 61 (.aload_n 0) 1 62 := ⟨by decide +kernel, rfl⟩
theorem d_M_putBack_62 : xk_d c_M_putBack 62 (.getfield 68) 3 65 := ⟨by decide +kernel, rfl⟩
theorem d_M_putBack_65 : xk_d c_M_putBack 65 (.iload_n 1) 1 66 := ⟨by decide +kernel, rfl⟩
theorem d_M_putBack_66 : xk_d c_M_putBack 66 (.iaload) 1 67 := ⟨by decide +kernel, rfl⟩
theorem d_M_putBack_67 : xk_d c_M_putBack 67 (.iastore) 1 68 := ⟨by decide +kernel, rfl⟩
theorem d_M_putBack_68 : xk_d c_M_putBack 68 (.aload_n 0) 1 69 := ⟨by decide +kernel, rfl⟩
theorem d_M_putBack_69 : xk_d c_M_putBack 69 (.getfield 53) 3 72 := ⟨by decide +kernel, rfl⟩
theorem d_M_putBack_72 : xk_d c_M_putBack 72 (.iload_n 1) 1 73 := ⟨by decide +kernel, rfl⟩
theorem d_M_putBack_73 : xk_d c_M_putBack 73 (.aload_n 0) 1 74 := ⟨by decide +kernel, rfl⟩
theorem d_M_putBack_74 : xk_d c_M_putBack 74 (.getfield 74) 3 77 := ⟨by decide +kernel, rfl⟩
theorem d_M_putBack_77 : xk_d c_M_putBack 77 (.iload_n 1) 1 78 := ⟨by decide +kernel, rfl⟩
theorem d_M_putBack_78 : xk_d c_M_putBack 78 (.iaload) 1 79 := ⟨by decide +kernel, rfl⟩
theorem d_M_putBack_79 : xk_d c_M_putBack 79 (.iastore) 1 80 := ⟨by decide +kernel, rfl⟩
theorem d_M_putBack_80 : xk_d c_M_putBack 80 (.iinc 1 1) 3 83 := ⟨by decide +kernel, rfl⟩
theorem d_M_putBack_83 : xk_b c_M_putBack 83 (.goto (-81)) 86 (-81) 2 := ⟨by decide +kernel, rfl, by decide⟩
theorem d_M_putBack_86 : xk_d c_M_putBack 86 (.iconst 0) 1 87 := ⟨by decide +kernel, rfl⟩
theorem d_M_putBack_87 : xk_d c_M_putBack 87 (.istore_n 1) 1 88 := ⟨by decide +kernel, rfl⟩
theorem d_M_putBack_88 : xk_d c_M_putBack 88 (.iload_n 1) 1 89 := ⟨by decide +kernel, rfl⟩
theorem d_M_putBack_89 : xk_d c_M_putBack 89 (.sipush 512) 3 92 := ⟨by decide +kernel, rfl⟩
theorem d_M_putBack_92 : xk_b c_M_putBack 92 (.if_icmp .ge 21) 95 (21) 113 := ⟨by decide +kernel, rfl, by decide⟩
theorem d_M_putBack_95 : xk_d c_M_putBack 95 (.aload_n 0) 1 96 := ⟨by decide +kernel, rfl⟩
theorem d_M_putBack_96 : xk_d c_M_putBack 96 (.getfield 50) 3 99 := ⟨by decide +kernel, rfl⟩
theorem d_M_putBack_99 : xk_d c_M_putBack 99 (.iload_n 1) 1 100 := ⟨by decide +kernel, rfl⟩
theorem d_M_putBack_100 : xk_d c_M_putBack 100 (.aload_n 0) 1 101 := ⟨by decide +kernel, rfl⟩
theorem d_M_putBack_101 : xk_d c_M_putBack 101 (.getfield 71) 3 104 := ⟨by decide +kernel, rfl⟩
theorem d_M_putBack_104 : xk_d c_M_putBack 104 (.iload_n 1) 1 105 := ⟨by decide +kernel, rfl⟩
theorem d_M_putBack_105 : xk_d c_M_putBack 105 (.iaload) 1 106 := ⟨by decide +kernel, rfl⟩
theorem d_M_putBack_106 : xk_d c_M_putBack 106 (.iastore) 1 107 := ⟨by decide +kernel, rfl⟩
theorem d_M_putBack_107 : xk_d c_M_putBack 107 (.iinc 1 1) 3 110 := ⟨by decide +kernel, rfl⟩
theorem d_M_putBack_110 : xk_b c_M_putBack 110 (.goto (-22)) 113 (-22) 88 := ⟨by decide +kernel, rfl, by decide⟩
theorem d_M_putBack_113 : xk_d c_M_putBack 113 (.return_) 1 114 := ⟨by decide +kernel, rfl⟩
theorem d_M_replay_0 : xk_d c_M_replay 0 (.aload_n 0) 1 1 := ⟨by decide +kernel, rfl⟩
theorem d_M_replay_1 : xk_d c_M_replay 1 (.invokevirtual 149) 3 4 := ⟨by decide +kernel, rfl⟩
theorem d_M_replay_4 : xk_d c_M_replay 4 (.iconst 0) 1 5 := ⟨by decide +kernel, rfl⟩
theorem d_M_replay_5 : xk_d c_M_replay 5 (.istore_n 1) 1 6 := ⟨by decide +kernel, rfl⟩
theorem d_M_replay_6 : xk_d c_M_replay 6 (.iload_n 1) 1 7 := ⟨by decide +kernel, rfl⟩
theorem d_M_replay_7 : xk_d c_M_replay 7 (.aload_n 0) 1 8 := ⟨by decide +kernel, rfl⟩
theorem d_M_replay_8 : xk_d c_M_replay 8 (.getfield 89) 3 11 := ⟨by decide +kernel, rfl⟩
theorem d_M_replay_11 : xk_b c_M_replay 11 (.if_icmp .ge 48) 14 (48) 59 := ⟨by decide +kernel, rfl, by decide⟩
theorem d_M_replay_14 : xk_d c_M_replay 14 (.aload_n 0) 1 15 := ⟨by decide +kernel, rfl⟩
theorem d_M_replay_15 : xk_d c_M_replay 15 (.getfield 35) 3 18 := ⟨by decide +kernel, rfl⟩
theorem d_M_replay_18 : xk_d c_M_replay 18 (.iload_n 1) 1 19 := ⟨by decide +kernel, rfl⟩
theorem d_M_replay_19 : xk_d c_M_replay 19 (.bipush 20) 2 21 := ⟨by decide +kernel, rfl⟩
theorem d_M_replay_21 : xk_d c_M_replay 21 (.iastore) 1 22 := ⟨by decide +kernel, rfl⟩
theorem d_M_replay_22 : xk_d c_M_replay 22 (.aload_n 0) 1 23 := ⟨by decide +kernel, rfl⟩
theorem d_M_replay_23 : xk_d c_M_replay 23 (.getfield 38) 3 26 := ⟨by decide +kernel, rfl⟩
theorem d_M_replay_26 : xk_d c_M_replay 26 (.iload_n 1) 1 27 := ⟨by decide +kernel, rfl⟩
theorem d_M_replay_27 : xk_d c_M_replay 27 (.aload_n 0) 1 28 := ⟨by decide +kernel, rfl⟩
theorem d_M_replay_28 : xk_d c_M_replay 28 (.getfield 17) 3 31 := ⟨by decide +kernel, rfl⟩
theorem d_M_replay_31 : xk_d c_M_replay 31 (.iload_n 1) 1 32 := ⟨by decide +kernel, rfl⟩
theorem d_M_replay_32 : xk_d c_M_replay 32 (.iaload) 1 33 := ⟨by decide +kernel, rfl⟩
theorem d_M_replay_33 : xk_d c_M_replay 33 (.iastore) 1 34 := ⟨by decide +kernel, rfl⟩
theorem d_M_replay_34 : xk_d c_M_replay 34 (.aload_n 0) 1 35 := ⟨by decide +kernel, rfl⟩
theorem d_M_replay_35 : xk_d c_M_replay 35 (.iload_n 1) 1 36 := ⟨by decide +kernel, rfl⟩
theorem d_M_replay_36 : xk_d c_M_replay 36 (.invokevirtual 121) 3 39 := ⟨by decide +kernel, rfl⟩
theorem d_M_replay_39 : xk_d c_M_replay 39 (.aload_n 0) 1 40 := ⟨by decide +kernel, rfl⟩
theorem d_M_replay_40 : xk_d c_M_replay 40 (.getfield 47) 3 43 := ⟨by decide +kernel, rfl⟩
theorem d_M_replay_43 : xk_d c_M_replay 43 (.iload_n 1) 1 44 := ⟨by decide +kernel, rfl⟩
theorem d_M_replay_44 : xk_d c_M_replay 44 (.iconst 0) 1 45 := ⟨by decide +kernel, rfl⟩
theorem d_M_replay_45 : xk_d c_M_replay 45 (.iastore) 1 46 := ⟨by decide +kernel, rfl⟩
theorem d_M_replay_46 : xk_d c_M_replay 46 (.aload_n 0) 1 47 := ⟨by decide +kernel, rfl⟩
theorem d_M_replay_47 : xk_d c_M_replay 47 (.getfield 53) 3 50 := ⟨by decide +kernel, rfl⟩
theorem d_M_replay_50 : xk_d c_M_replay 50 (.iload_n 1) 1 51 := ⟨by decide +kernel, rfl⟩
theorem d_M_replay_51 : xk_d c_M_replay 51 (.iconst 0) 1 52 := ⟨by decide +kernel, rfl⟩
theorem d_M_replay_52 : xk_d c_M_replay 52 (.iastore) 1 53 := ⟨by decide +kernel, rfl⟩
theorem d_M_replay_53 : xk_d c_M_replay 53 (.iinc 1 1) 3 56 := ⟨by decide +kernel, rfl⟩
theorem d_M_replay_56 : xk_b c_M_replay 56 (.goto (-50)) 59 (-50) 6 := ⟨by decide +kernel, rfl, by decide⟩
theorem d_M_replay_59 : xk_d c_M_replay 59 (.iconst (-1)) 1 60 := ⟨by decide +kernel, rfl⟩
theorem d_M_replay_60 : xk_d c_M_replay 60 (.istore_n 1) 1 61 := ⟨by decide +kernel, rfl⟩
theorem d_M_replay_61 : xk_d c_M_replay 61 (.iconst 0) 1 62 := ⟨by decide +kernel, rfl⟩
theorem d_M_replay_62 : xk_d c_M_replay 62 (.istore_n 2) 1 63 := ⟨by decide +kernel, rfl⟩
theorem d_M_replay_63 : xk_d c_M_replay 63 (.iload_n 2) 1 64 := ⟨by decide +kernel, rfl⟩
theorem d_M_replay_64 : xk_d c_M_replay 64 (.aload_n 0) 1 65 := ⟨by decide +kernel, rfl⟩
theorem d_M_replay_65 : xk_d c_M_replay 65 (.getfield 107) 3 68 := ⟨by decide +kernel, rfl⟩
theorem d_M_replay_68 : xk_b c_M_replay 68 (.if_icmp .ge 33) 71 (33) 101 := ⟨by decide +kernel, rfl, by decide⟩
theorem d_M_replay_71 : xk_d c_M_replay 71 (.iload_n 1) 1 72 := ⟨by decide +kernel, rfl⟩
theorem d_M_replay_72 : xk_b c_M_replay 72 (.ifCond .ge 29) 75 (29) 101 := ⟨by decide +kernel, rfl, by decide⟩
theorem d_M_replay_75 : xk_d c_M_replay 75 (.aload_n 0) 1 76 := ⟨by decide +kernel, rfl⟩
theorem d_M_replay_76 : xk_d c_M_replay 76 (.iload_n 2) 1 77 := ⟨by decide +kernel, rfl⟩
theorem d_M_replay_77 : xk_d c_M_replay 77 (.invokevirtual 145) 3 80 := ⟨by decide +kernel, rfl⟩
theorem d_M_replay_80 : xk_d c_M_replay 80 (.aload_n 0) 1 81 := ⟨by decide +kernel, rfl⟩
theorem d_M_replay_81 : xk_d c_M_replay 81 (.getfield 20) 3 84 := ⟨by decide +kernel, rfl⟩
theorem d_M_replay_84 : xk_d c_M_replay 84 (.iload_n 2) 1 85 := ⟨by decide +kernel, rfl⟩
theorem d_M_replay_85 : xk_d c_M_replay 85 (.iaload) 1 86 := ⟨by decide +kernel, rfl⟩
theorem d_M_replay_86 : xk_b c_M_replay 86 (.if_icmp .ne 7) 89 (7) 93 := ⟨by decide +kernel, rfl, by decide⟩
theorem d_M_replay_89 : xk_d c_M_replay 89 (.iconst (-1)) 1 90 := ⟨by decide +kernel, rfl⟩
theorem d_M_replay_90 : xk_b c_M_replay 90 (.goto 4) 93 (4) 94 := ⟨by decide +kernel, rfl, by decide⟩
theorem d_M_replay_93 : xk_d c_M_replay 93 (.iload_n 2) 1 94 := ⟨by decide +kernel, rfl⟩
theorem d_M_replay_94 : xk_d c_M_replay 94 (.istore_n 1) 1 95 := ⟨by decide +kernel, rfl⟩
theorem d_M_replay_95 : xk_d c_M_replay 95 (.iinc 2 1) 3 98 := ⟨by decide +kernel, rfl⟩
theorem d_M_replay_98 : xk_b c_M_replay 98 (.goto (-35)) 101 (-35) 63 := ⟨by decide +kernel, rfl, by decide⟩
theorem d_M_replay_101 : xk_d c_M_replay 101 (.aload_n 0) 1 102 := ⟨by decide +kernel, rfl⟩
theorem d_M_replay_102 : xk_d c_M_replay 102 (.invokevirtual 152) 3 105 := ⟨by decide +kernel, rfl⟩
theorem d_M_replay_105 : xk_d c_M_replay 105 (.iload_n 1) 1 106 := ⟨by decide +kernel, rfl⟩
theorem d_M_replay_106 : xk_d c_M_replay 106 (.ireturn) 1 107 := ⟨by decide +kernel, rfl⟩
theorem d_M_number_0 : xk_d c_M_number 0 (.iload_n 1) 1 1 := ⟨by decide +kernel, rfl⟩
theorem d_M_number_1 : xk_b c_M_number 1 (.ifCond .lt 20) 4 (20) 21 := ⟨by decide +kernel, rfl, by decide⟩
theorem d_M_number_4 : xk_d c_M_number 4 (.iload_n 1) 1 5 := ⟨by decide +kernel, rfl⟩
theorem d_M_number_5 : xk_d c_M_number 5 (.aload_n 0) 1 6 := ⟨by decide +kernel, rfl⟩
theorem d_M_number_6 : xk_d c_M_number 6 (.getfield 107) 3 9 := ⟨by decide +kernel, rfl⟩
theorem d_M_number_9 : xk_b c_M_number 9 (.if_icmp .ge 12) 12 (12) 21 := ⟨by decide +kernel, rfl, by decide⟩
theorem d_M_number_12 : xk_d c_M_number 12 (.aload_n 0) 1 13 := ⟨by decide +kernel, rfl⟩
theorem d_M_number_13 : xk_d c_M_number 13 (.getfield 20) 3 16 := ⟨by decide +kernel, rfl⟩
theorem d_M_number_16 : xk_d c_M_number 16 (.iload_n 1) 1 17 := ⟨by decide +kernel, rfl⟩
theorem d_M_number_17 : xk_d c_M_number 17 (.iaload) 1 18 := ⟨by decide +kernel, rfl⟩
theorem d_M_number_18 : xk_b c_M_number 18 (.goto 4) 21 (4) 22 := ⟨by decide +kernel, rfl, by decide⟩
theorem d_M_number_21 : xk_d c_M_number 21 (.iconst 0) 1 22 := ⟨by decide +kernel, rfl⟩
theorem d_M_number_22 : xk_d c_M_number 22 (.ireturn) 1 23 := ⟨by decide +kernel, rfl⟩
theorem d_M_tile_0 : xk_d c_M_tile 0 (.aload_n 0) 1 1 := ⟨by decide +kernel, rfl⟩
theorem d_M_tile_1 : xk_d c_M_tile 1 (.iload_n 1) 1 2 := ⟨by decide +kernel, rfl⟩
theorem d_M_tile_2 : xk_d c_M_tile 2 (.invokevirtual 104) 3 5 := ⟨by decide +kernel, rfl⟩
theorem d_M_tile_5 : xk_b c_M_tile 5 (.ifCond .eq 21) 8 (21) 26 := ⟨by decide +kernel, rfl, by decide⟩
theorem d_M_tile_8 : xk_d c_M_tile 8 (.aload_n 0) 1 9 := ⟨by decide +kernel, rfl⟩
theorem d_M_tile_9 : xk_d c_M_tile 9 (.getfield 35) 3 12 := ⟨by decide +kernel, rfl⟩
theorem d_M_tile_12 : xk_d c_M_tile 12 (.iload_n 1) 1 13 := ⟨by decide +kernel, rfl⟩
theorem d_M_tile_13 : xk_d c_M_tile 13 (.iaload) 1 14 := ⟨by decide +kernel, rfl⟩
theorem d_M_tile_14 : xk_b c_M_tile 14 (.ifCond .le 12) 17 (12) 26 := ⟨by decide +kernel, rfl, by decide⟩
theorem d_M_tile_17 : xk_d c_M_tile 17 (.aload_n 0) 1 18 := ⟨by decide +kernel, rfl⟩
theorem d_M_tile_18 : xk_d c_M_tile 18 (.getfield 38) 3 21 := ⟨by decide +kernel, rfl⟩
theorem d_M_tile_21 : xk_d c_M_tile 21 (.iload_n 1) 1 22 := ⟨by decide +kernel, rfl⟩
theorem d_M_tile_22 : xk_d c_M_tile 22 (.iaload) 1 23 := ⟨by decide +kernel, rfl⟩
theorem d_M_tile_23 : xk_b c_M_tile 23 (.goto 4) 26 (4) 27 := ⟨by decide +kernel, rfl, by decide⟩
theorem d_M_tile_26 : xk_d c_M_tile 26 (.iconst (-1)) 1 27 := ⟨by decide +kernel, rfl⟩
theorem d_M_tile_27 : xk_d c_M_tile 27 (.ireturn) 1 28 := ⟨by decide +kernel, rfl⟩
theorem d_M_points_0 : xk_d c_M_points 0 (.aload_n 0) 1 1 := ⟨by decide +kernel, rfl⟩
theorem d_M_points_1 : xk_d c_M_points 1 (.iload_n 1) 1 2 := ⟨by decide +kernel, rfl⟩
theorem d_M_points_2 : xk_d c_M_points 2 (.invokevirtual 104) 3 5 := ⟨by decide +kernel, rfl⟩
theorem d_M_points_5 : xk_b c_M_points 5 (.ifCond .eq 12) 8 (12) 17 := ⟨by decide +kernel, rfl, by decide⟩
theorem d_M_points_8 : xk_d c_M_points 8 (.aload_n 0) 1 9 := ⟨by decide +kernel, rfl⟩
theorem d_M_points_9 : xk_d c_M_points 9 (.getfield 35) 3 12 := ⟨by decide +kernel, rfl⟩
theorem d_M_points_12 : xk_d c_M_points 12 (.iload_n 1) 1 13 := ⟨by decide +kernel, rfl⟩
theorem d_M_points_13 : xk_d c_M_points 13 (.iaload) 1 14 := ⟨by decide +kernel, rfl⟩
theorem d_M_points_14 : xk_b c_M_points 14 (.goto 4) 17 (4) 18 := ⟨by decide +kernel, rfl, by decide⟩
theorem d_M_points_17 : xk_d c_M_points 17 (.iconst (-1)) 1 18 := ⟨by decide +kernel, rfl⟩
theorem d_M_points_18 : xk_d c_M_points 18 (.ireturn) 1 19 := ⟨by decide +kernel, rfl⟩
theorem d_M_order_0 : xk_d c_M_order 0 (.aload_n 0) 1 1 := ⟨by decide +kernel, rfl⟩
theorem d_M_order_1 : xk_d c_M_order 1 (.iload_n 1) 1 2 := ⟨by decide +kernel, rfl⟩
theorem d_M_order_2 : xk_d c_M_order 2 (.invokevirtual 104) 3 5 := ⟨by decide +kernel, rfl⟩
theorem d_M_order_5 : xk_b c_M_order 5 (.ifCond .eq 21) 8 (21) 26 := ⟨by decide +kernel, rfl, by decide⟩
theorem d_M_order_8 : xk_d c_M_order 8 (.aload_n 0) 1 9 := ⟨by decide +kernel, rfl⟩
theorem d_M_order_9 : xk_d c_M_order 9 (.getfield 41) 3 12 := ⟨by decide +kernel, rfl⟩
theorem d_M_order_12 : xk_d c_M_order 12 (.iload_n 1) 1 13 := ⟨by decide +kernel, rfl⟩
theorem d_M_order_13 : xk_d c_M_order 13 (.iaload) 1 14 := ⟨by decide +kernel, rfl⟩
theorem d_M_order_14 : xk_d c_M_order 14 (.iconst 4) 1 15 := ⟨by decide +kernel, rfl⟩
theorem d_M_order_15 : xk_d c_M_order 15 (.aload_n 0) 1 16 := ⟨by decide +kernel, rfl⟩
theorem d_M_order_16 : xk_d c_M_order 16 (.getfield 44) 3 19 := ⟨by decide +kernel, rfl⟩
theorem d_M_order_19 : xk_d c_M_order 19 (.iload_n 1) 1 20 := ⟨by decide +kernel, rfl⟩
theorem d_M_order_20 : xk_d c_M_order 20 (.iaload) 1 21 := ⟨by decide +kernel, rfl⟩
theorem d_M_order_21 : xk_d c_M_order 21 (.imul) 1 22 := ⟨by decide +kernel, rfl⟩
theorem d_M_order_22 : xk_d c_M_order 22 (.iadd) 1 23 := ⟨by decide +kernel, rfl⟩
theorem d_M_order_23 : xk_b c_M_order 23 (.goto 4) 26 (4) 27 := ⟨by decide +kernel, rfl, by decide⟩
theorem d_M_order_26 : xk_d c_M_order 26 (.iconst (-1)) 1 27 := ⟨by decide +kernel, rfl⟩
theorem d_M_order_27 : xk_d c_M_order 27 (.ireturn) 1 28 := ⟨by decide +kernel, rfl⟩
theorem d_M_path_0 : xk_d c_M_path 0 (.aload_n 0) 1 1 := ⟨by decide +kernel, rfl⟩
theorem d_M_path_1 : xk_d c_M_path 1 (.iload_n 1) 1 2 := ⟨by decide +kernel, rfl⟩
theorem d_M_path_2 : xk_d c_M_path 2 (.invokevirtual 104) 3 5 := ⟨by decide +kernel, rfl⟩
theorem d_M_path_5 : xk_b c_M_path 5 (.ifCond .eq 31) 8 (31) 36 := ⟨by decide +kernel, rfl, by decide⟩
theorem d_M_path_8 : xk_d c_M_path 8 (.iload_n 2) 1 9 := ⟨by decide +kernel, rfl⟩
theorem d_M_path_9 : xk_b c_M_path 9 (.ifCond .lt 27) 12 (27) 36 := ⟨by decide +kernel, rfl, by decide⟩
theorem d_M_path_12 : xk_d c_M_path 12 (.iload_n 2) 1 13 := ⟨by decide +kernel, rfl⟩
theorem d_M_path_13 : xk_d c_M_path 13 (.aload_n 0) 1 14 := ⟨by decide +kernel, rfl⟩
theorem d_M_path_14 : xk_d c_M_path 14 (.getfield 53) 3 17 := ⟨by decide +kernel, rfl⟩
theorem d_M_path_17 : xk_d c_M_path 17 (.iload_n 1) 1 18 := ⟨by decide +kernel, rfl⟩
theorem d_M_path_18 : xk_d c_M_path 18 (.iaload) 1 19 := ⟨by decide +kernel, rfl⟩
theorem d_M_path_19 : xk_b c_M_path 19 (.if_icmp .ge 17) 22 (17) 36 := ⟨by decide +kernel, rfl, by decide⟩
theorem d_M_path_22 : xk_d c_M_path 22 (.aload_n 0) 1 23 := ⟨by decide +kernel, rfl⟩
theorem d_M_path_23 : xk_d c_M_path 23 (.getfield 50) 3 26 := ⟨by decide +kernel, rfl⟩
theorem d_M_path_26 : xk_d c_M_path 26 (.bipush 64) 2 28 := ⟨by decide +kernel, rfl⟩
theorem d_M_path_28 : xk_d c_M_path 28 (.iload_n 1) 1 29 := ⟨by decide +kernel, rfl⟩
theorem d_M_path_29 : xk_d c_M_path 29 (.imul) 1 30 := ⟨by decide +kernel, rfl⟩
theorem d_M_path_30 : xk_d c_M_path 30 (.iload_n 2) 1 31 := ⟨by decide +kernel, rfl⟩
theorem d_M_path_31 : xk_d c_M_path 31 (.iadd) 1 32 := ⟨by decide +kernel, rfl⟩
theorem d_M_path_32 : xk_d c_M_path 32 (.iaload) 1 33 := ⟨by decide +kernel, rfl⟩
theorem d_M_path_33 : xk_b c_M_path 33 (.goto 4) 36 (4) 37 := ⟨by decide +kernel, rfl, by decide⟩
theorem d_M_path_36 : xk_d c_M_path 36 (.iconst (-1)) 1 37 := ⟨by decide +kernel, rfl⟩
theorem d_M_path_37 : xk_d c_M_path 37 (.ireturn) 1 38 := ⟨by decide +kernel, rfl⟩
theorem d_M_entries_0 : xk_d c_M_entries 0 (.aload_n 0) 1 1 := ⟨by decide +kernel, rfl⟩
theorem d_M_entries_1 : xk_d c_M_entries 1 (.getfield 110) 3 4 := ⟨by decide +kernel, rfl⟩
theorem d_M_entries_4 : xk_d c_M_entries 4 (.ireturn) 1 5 := ⟨by decide +kernel, rfl⟩
theorem d_M_winner_0 : xk_d c_M_winner 0 (.iconst 0) 1 1 := ⟨by decide +kernel, rfl⟩
theorem d_M_winner_1 : xk_d c_M_winner 1 (.istore_n 1) 1 2 := ⟨by decide +kernel, rfl⟩
theorem d_M_winner_2 : xk_d c_M_winner 2 (.iconst 0) 1 3 := ⟨by decide +kernel, rfl⟩
theorem d_M_winner_3 : xk_d c_M_winner 3 (.istore_n 2) 1 4 := ⟨by decide +kernel, rfl⟩
theorem d_M_winner_4 : xk_d c_M_winner 4 (.iconst 0) 1 5 := ⟨by decide +kernel, rfl⟩
theorem d_M_winner_5 : xk_d c_M_winner 5 (.istore_n 3) 1 6 := ⟨by decide +kernel, rfl⟩
theorem d_M_winner_6 : xk_d c_M_winner 6 (.iload_n 3) 1 7 := ⟨by decide +kernel, rfl⟩
theorem d_M_winner_7 : xk_d c_M_winner 7 (.aload_n 0) 1 8 := ⟨by decide +kernel, rfl⟩
theorem d_M_winner_8 : xk_d c_M_winner 8 (.getfield 89) 3 11 := ⟨by decide +kernel, rfl⟩
theorem d_M_winner_11 : xk_b c_M_winner 11 (.if_icmp .ge 66) 14 (66) 77 := ⟨by decide +kernel, rfl, by decide⟩
theorem d_M_winner_14 : xk_d c_M_winner 14 (.iload_n 1) 1 15 := ⟨by decide +kernel, rfl⟩
theorem d_M_winner_15 : xk_b c_M_winner 15 (.ifCond .ne 21) 18 (21) 36 := ⟨by decide +kernel, rfl, by decide⟩
theorem d_M_winner_18 : xk_d c_M_winner 18 (.aload_n 0) 1 19 := ⟨by decide +kernel, rfl⟩
theorem d_M_winner_19 : xk_d c_M_winner 19 (.getfield 35) 3 22 := ⟨by decide +kernel, rfl⟩
theorem d_M_winner_22 : xk_d c_M_winner 22 (.iload_n 3) 1 23 := ⟨by decide +kernel, rfl⟩
theorem d_M_winner_23 : xk_d c_M_winner 23 (.iaload) 1 24 := ⟨by decide +kernel, rfl⟩
theorem d_M_winner_24 : xk_b c_M_winner 24 (.ifCond .le 16) 27 (16) 40 := ⟨by decide +kernel, rfl, by decide⟩
theorem d_M_winner_27 : xk_d c_M_winner 27 (.aload_n 0) 1 28 := ⟨by decide +kernel, rfl⟩
theorem d_M_winner_28 : xk_d c_M_winner 28 (.getfield 13) 3 31 := ⟨by decide +kernel, rfl⟩
theorem d_M_winner_31 : xk_d c_M_winner 31 (.iload_n 3) 1 32 := ⟨by decide +kernel, rfl⟩
theorem d_M_winner_32 : xk_d c_M_winner 32 (.iaload) 1 33 := ⟨by decide +kernel, rfl⟩
theorem d_M_winner_33 : xk_b c_M_winner 33 (.ifCond .ne 7) 36 (7) 40 := ⟨by decide +kernel, rfl, by decide⟩
theorem d_M_winner_36 : xk_d c_M_winner 36 (.iconst 1) 1 37 := ⟨by decide +kernel, rfl⟩
theorem d_M_winner_37 : xk_b c_M_winner 37 (.goto 4) 40 (4) 41 := ⟨by decide +kernel, rfl, by decide⟩
theorem d_M_winner_40 : xk_d c_M_winner 40 (.iconst 0) 1 41 := ⟨by decide +kernel, rfl⟩
theorem d_M_winner_41 : xk_d c_M_winner 41 (.istore_n 1) 1 42 := ⟨by decide +kernel, rfl⟩
theorem d_M_winner_42 : xk_d c_M_winner 42 (.iload_n 2) 1 43 := ⟨by decide +kernel, rfl⟩
theorem d_M_winner_43 : xk_b c_M_winner 43 (.ifCond .ne 22) 46 (22) 65 := ⟨by decide +kernel, rfl, by decide⟩
theorem d_M_winner_46 : xk_d c_M_winner 46 (.aload_n 0) 1 47 := ⟨by decide +kernel, rfl⟩
theorem d_M_winner_47 : xk_d c_M_winner 47 (.getfield 35) 3 50 := ⟨by decide +kernel, rfl⟩
theorem d_M_winner_50 : xk_d c_M_winner 50 (.iload_n 3) 1 51 := ⟨by decide +kernel, rfl⟩
theorem d_M_winner_51 : xk_d c_M_winner 51 (.iaload) 1 52 := ⟨by decide +kernel, rfl⟩
theorem d_M_winner_52 : xk_b c_M_winner 52 (.ifCond .le 17) 55 (17) 69 := ⟨by decide +kernel, rfl, by decide⟩
theorem d_M_winner_55 : xk_d c_M_winner 55 (.aload_n 0) 1 56 := ⟨by decide +kernel, rfl⟩
theorem d_M_winner_56 : xk_d c_M_winner 56 (.getfield 13) 3 59 := ⟨by decide +kernel, rfl⟩
theorem d_M_winner_59 : xk_d c_M_winner 59 (.iload_n 3) 1 60 := ⟨by decide +kernel, rfl⟩
theorem d_M_winner_60 : xk_d c_M_winner 60 (.iaload) 1 61 := ⟨by decide +kernel, rfl⟩
theorem d_M_winner_61 : xk_d c_M_winner 61 (.iconst 1) 1 62 := ⟨by decide +kernel, rfl⟩
theorem d_M_winner_62 : xk_b c_M_winner 62 (.if_icmp .ne 7) 65 (7) 69 := ⟨by decide +kernel, rfl, by decide⟩
theorem d_M_winner_65 : xk_d c_M_winner 65 (.iconst 1) 1 66 := ⟨by decide +kernel, rfl⟩
theorem d_M_winner_66 : xk_b c_M_winner 66 (.goto 4) 69 (4) 70 := ⟨by decide +kernel, rfl, by decide⟩
theorem d_M_winner_69 : xk_d c_M_winner 69 (.iconst 0) 1 70 := ⟨by decide +kernel, rfl⟩
theorem d_M_winner_70 : xk_d c_M_winner 70 (.istore_n 2) 1 71 := ⟨by decide +kernel, rfl⟩
theorem d_M_winner_71 : xk_d c_M_winner 71 (.iinc 3 1) 3 74 := ⟨by decide +kernel, rfl⟩
theorem d_M_winner_74 : xk_b c_M_winner 74 (.goto (-68)) 77 (-68) 6 := ⟨by decide +kernel, rfl, by decide⟩
theorem d_M_winner_77 : xk_d c_M_winner 77 (.iload_n 1) 1 78 := ⟨by decide +kernel, rfl⟩
theorem d_M_winner_78 : xk_b c_M_winner 78 (.ifCond .eq 11) 81 (11) 89 := ⟨by decide +kernel, rfl, by decide⟩
theorem d_M_winner_81 : xk_d c_M_winner 81 (.iload_n 2) 1 82 := ⟨by decide +kernel, rfl⟩
theorem d_M_winner_82 : xk_b c_M_winner 82 (.ifCond .eq 7) 85 (7) 89 := ⟨by decide +kernel, rfl, by decide⟩
theorem d_M_winner_85 : xk_d c_M_winner 85 (.iconst 2) 1 86 := ⟨by decide +kernel, rfl⟩
theorem d_M_winner_86 : xk_b c_M_winner 86 (.goto 20) 89 (20) 106 := ⟨by decide +kernel, rfl, by decide⟩
theorem d_M_winner_89 : xk_d c_M_winner 89 (.iload_n 1) 1 90 := ⟨by decide +kernel, rfl⟩
theorem d_M_winner_90 : xk_b c_M_winner 90 (.ifCond .eq 7) 93 (7) 97 := ⟨by decide +kernel, rfl, by decide⟩
theorem d_M_winner_93 : xk_d c_M_winner 93 (.iconst 0) 1 94 := ⟨by decide +kernel, rfl⟩
theorem d_M_winner_94 : xk_b c_M_winner 94 (.goto 12) 97 (12) 106 := ⟨by decide +kernel, rfl, by decide⟩
theorem d_M_winner_97 : xk_d c_M_winner 97 (.iload_n 2) 1 98 := ⟨by decide +kernel, rfl⟩
theorem d_M_winner_98 : xk_b c_M_winner 98 (.ifCond .eq 7) 101 (7) 105 := ⟨by decide +kernel, rfl, by decide⟩
theorem d_M_winner_101 : xk_d c_M_winner 101 (.iconst 1) 1 102 := ⟨by decide +kernel, rfl⟩
theorem d_M_winner_102 : xk_b c_M_winner 102 (.goto 4) 105 (4) 106 := ⟨by decide +kernel, rfl, by decide⟩
theorem d_M_winner_105 : xk_d c_M_winner 105 (.iconst 3) 1 106 := ⟨by decide +kernel, rfl⟩
theorem d_M_winner_106 : xk_d c_M_winner 106 (.ireturn) 1 107 := ⟨by decide +kernel, rfl⟩
end
section
/-! THE TWO WORLDS: shapes; the rows of each field and of each call -/
def xc_fU (k : Nat) : List xk_FK := [.inl none, .inl none, .inl none, .inl none, .inl none, .inl none, .inl none, .inl none, .inl (some (k + 16)), .inl none, .inl none]
def xc_fP (p : Nat) : List xk_FK := [.inl (some 1), .inl (some (11 + 3 * p)), .inl (some (12 + 3 * p)), .inl none]
def xc_S : List xk_Sh := [.inr (4, [.inl (some 1), .inl (some 5), .inl (some 10), .inl (some 13), .inl (some 16), .inl none, .inl none]), .inr (0, [.inr (), .inl (some 2), .inl (some 3), .inl (some 4)]), .inl (0, 64), .inl (0, 64), .inl (0, 64), .inr (1, [.inl (some 6), .inl (some 7), .inl (some 8), .inl (some 9), .inl none]), .inl (0, 24), .inl (0, 24), .inl (0, 24), .inl (0, 24), .inr (2, xc_fP 0), .inl (19, 8), .inl (0, 8), .inr (2, xc_fP 1), .inl (27, 8), .inl (0, 8), .inl (0, 200),
  .inr (3, xc_fU 17), .inr (3, xc_fU 18), .inr (3, xc_fU 19), .inr (3, xc_fU 20), .inr (3, xc_fU 21), .inr (3, xc_fU 22), .inr (3, xc_fU 23), .inr (3, xc_fU 24), .inr (3, xc_fU 25), .inr (3, xc_fU 26), .inr (3, xc_fU 27), .inr (3, xc_fU 28), .inr (3, xc_fU 29), .inr (3, xc_fU 30), .inr (3, xc_fU 31), .inr (3, xc_fU 32),
  .inl (0, 64), .inl (0, 64), .inl (0, 64), .inl (0, 64), .inl (0, 64), .inl (0, 64), .inl (0, 64), .inl (0, 64), .inl (0, 64), .inl (0, 64), .inl (0, 64), .inl (0, 64), .inl (0, 64), .inl (0, 64), .inl (0, 64), .inl (0, 64)]
def xm_S : List xk_Sh := [.inr (5, [.inl (some 1), .inl none, .inl (some 2), .inl (some 3), .inl none, .inl none, .inl (some 4), .inl none, .inl (some 5), .inl (some 6), .inl (some 7), .inl (some 8), .inl (some 9), .inl (some 10), .inl (some 11), .inl (some 12), .inl (some 13), .inl (some 14), .inl (some 15), .inl (some 16), .inl (some 17), .inl (some 18), .inl (some 19), .inl (some 20), .inl (some 21), .inl (some 22), .inl (some 23), .inl (some 24), .inl (some 25), .inl (some 26)]), .inl (1, 64), .inl (0, 8), .inl (0, 8), .inl (0, 200), .inl (0, 24), .inl (0, 24), .inl (0, 24), .inl (0, 24), .inl (0, 8), .inl (0, 8), .inl (0, 8), .inl (0, 8), .inl (0, 8), .inl (0, 512), .inl (0, 8), .inl (0, 8), .inl (0, 8), .inl (0, 8), .inl (0, 8), .inl (0, 8), .inl (0, 512), .inl (0, 8), .inl (0, 64), .inl (0, 64), .inl (0, 64), .inl (0, 8)]
abbrev xk_D : Type := va_G × xk_G
abbrev xc (G : xk_D) : xk_w := (xt_T, xt_N, G.1, xt_C, xc_S, RU, G.2)
abbrev xm (G : xk_D) : xk_w := (xt_T, xt_N, G.1, xt_C, xm_S, RU, G.2)
theorem xt_goodT : ∀ v ∈ xt_T, (v.onTables && v.keeps) = true ∨ ∃ ty, v = .arrayClass ty := fun v hv => good_of_word (List.mem_filter.mp hv).2
theorem xc_good (G : xk_D) : xk_good (xc G) := xt_goodT
theorem xm_good (G : xk_D) : xk_good (xm G) := xt_goodT
theorem xc_shU {k : Nat} (hk : 17 ≤ k ∧ k < 33) : xc_S[k]? = some (.inr (3, xc_fU k)) := by
  have h : k = 17 ∨ k = 18 ∨ k = 19 ∨ k = 20 ∨ k = 21 ∨ k = 22 ∨ k = 23 ∨ k = 24 ∨ k = 25 ∨ k = 26 ∨ k = 27 ∨ k = 28 ∨ k = 29 ∨ k = 30 ∨ k = 31 ∨ k = 32 := by omega
  rcases h with rfl | rfl | rfl | rfl | rfl | rfl | rfl | rfl | rfl | rfl | rfl | rfl | rfl | rfl | rfl | rfl <;> rfl
theorem xc_shR {k : Nat} (hk : 17 ≤ k ∧ k < 33) : xc_S[k + 16]? = some (.inl (0, 64)) := by
  have h : k = 17 ∨ k = 18 ∨ k = 19 ∨ k = 20 ∨ k = 21 ∨ k = 22 ∨ k = 23 ∨ k = 24 ∨ k = 25 ∨ k = 26 ∨ k = 27 ∨ k = 28 ∨ k = 29 ∨ k = 30 ∨ k = 31 ∨ k = 32 := by omega
  rcases h with rfl | rfl | rfl | rfl | rfl | rfl | rfl | rfl | rfl | rfl | rfl | rfl | rfl | rfl | rfl | rfl <;> rfl
theorem xc_shP {p : Nat} (hp : p < 2) : xc_S[10 + 3 * p]? = some (.inr (2, xc_fP p)) := by
  have h : p = 0 ∨ p = 1 := by omega
  rcases h with rfl | rfl <;> rfl
theorem xc_shV {p : Nat} (hp : p < 2) : xc_S[11 + 3 * p]? = some (.inl (17 + 8 * p + 2, 8)) := by
  have h : p = 0 ∨ p = 1 := by omega
  rcases h with rfl | rfl <;> rfl
theorem xc_shO {p : Nat} (hp : p < 2) : xc_S[12 + 3 * p]? = some (.inl (0, 8)) := by
  have h : p = 0 ∨ p = 1 := by omega
  rcases h with rfl | rfl <;> rfl
theorem xc_clG (G : xk_D) : xk_Cl (xc G) 0 RG FG 4 TG := ⟨by show ∀ v ∈ u_ws RG FG 4, v ∈ xt_T; decide +kernel, rfl, by decide +kernel, by decide +kernel⟩
theorem xc_clL (G : xk_D) : xk_Cl (xc G) 1 RL FL 5 TL := ⟨by show ∀ v ∈ u_ws RL FL 5, v ∈ xt_T; decide +kernel, rfl, by decide +kernel, by decide +kernel⟩
theorem xc_clP (G : xk_D) : xk_Cl (xc G) 2 RP FP 4 TP := ⟨by show ∀ v ∈ u_ws RP FP 4, v ∈ xt_T; decide +kernel, rfl, by decide +kernel, by decide +kernel⟩
theorem xc_clU (G : xk_D) : xk_Cl (xc G) 3 RU FU 11 TU := ⟨by show ∀ v ∈ u_ws RU FU 11, v ∈ xt_T; decide +kernel, rfl, by decide +kernel, by decide +kernel⟩
theorem xc_clF (G : xk_D) : xk_Cl (xc G) 4 RF FF 7 TF := ⟨by show ∀ v ∈ u_ws RF FF 7, v ∈ xt_T; decide +kernel, rfl, by decide +kernel, by decide +kernel⟩
theorem xm_clM (G : xk_D) : xk_Cl (xm G) 5 RM FM 30 TM := ⟨by show ∀ v ∈ u_ws RM FM 30, v ∈ xt_T; decide +kernel, rfl, by decide +kernel, by decide +kernel⟩
abbrev xk_pi (P : Int32 → xk_St → Prop) : Option Value → xk_St → Prop := fun v τ => ∃ r, v = some (.int r) ∧ P r τ
abbrev xk_pl (P : Int64 → xk_St → Prop) : Option Value → xk_St → Prop := fun v τ => ∃ r, v = some (.long r) ∧ P r τ
abbrev xk_pv (P : xk_St → Prop) : Option Value → xk_St → Prop := fun v τ => v = none ∧ P τ
section XW
variable {G : xk_D} {K : xk_K} {σ : xk_St} {cc : ByteArray} {nL d d' pc pc' : Nat} {own : String} {ret : Option FieldType} {P : Option Value → xk_St → Prop} {lv : List (Nat × Value)} {st : List Value}
theorem x_iret {w : xk_w} {v : Int32} {Q : Int32 → xk_St → Prop} (hc : xk_H K w cc nL own d (some .int) (xk_pi Q)) (hd : xk_d cc pc .ireturn 1 pc') (h : Q v σ) : xk_X K (xk_vw w) σ pc lv [.int v] := x_ireturn hc hd ⟨v, rfl, h⟩
theorem x_zret {w : xk_w} {v : Int32} {Q : Int32 → xk_St → Prop} (hc : xk_H K w cc nL own d (some .boolean) (xk_pi Q)) (hd : xk_d cc pc .ireturn 1 pc') (hn : v = nI 0 ∨ v = nI 1) (h : Q v σ) : xk_X K (xk_vw w) σ pc lv [.int v] := x_zreturn hc hd (by rcases hn with rfl | rfl <;> decide +kernel) ⟨v, rfl, h⟩
theorem x_lret {w : xk_w} {v : Int64} {Q : Int64 → xk_St → Prop} (hc : xk_H K w cc nL own d (some .long) (xk_pl Q)) (hd : xk_d cc pc .lreturn 1 pc') (h : Q v σ) : xk_X K (xk_vw w) σ pc lv [.long v] := x_lreturn hc hd ⟨v, rfl, h⟩
theorem x_ret {w : xk_w} {Q : xk_St → Prop} (hc : xk_H K w cc nL own d none (xk_pv Q)) (hd : xk_d cc pc .return_ 1 pc') (h : Q σ) : xk_X K (xk_vw w) σ pc lv [] := x_vreturn hc hd ⟨rfl, h⟩
theorem gf_G_21 (hc : xk_H K (xc G) cc nL RG d ret P) (hd : xk_d cc pc (.getfield 21) 3 pc') {v : Int64} (hv : σ.2 1 0 = v) (kk : xk_X K (xk_vw (xc G)) σ pc' lv (.long v :: st)) : xk_X K (xk_vw (xc G)) σ pc lv (.ref (xk_wA (xc G) 1) :: st) :=
  x_get 0 hc (xc_clG G) (by decide) (List.mem_filter.mpr ⟨List.mem_append_right _ (List.mem_of_getElem? (i := 24) (by decide +kernel)), by decide +kernel⟩) rfl rfl hd (by subst hv; exact kk)
theorem pf_G_21 {v : Int64} (hc : xk_H K (xc G) cc nL RG d ret P) (hd : xk_d cc pc (.putfield 21) 3 pc') (kk : xk_X K (xk_vw (xc G)) (xk_upL σ 1 0 v) pc' lv st) : xk_X K (xk_vw (xc G)) σ pc lv (.long v :: .ref (xk_wA (xc G) 1) :: st) :=
  x_putL 0 hc (xc_clG G) (by decide) (List.mem_filter.mpr ⟨List.mem_append_right _ (List.mem_of_getElem? (i := 24) (by decide +kernel)), by decide +kernel⟩) rfl rfl rfl ⟨rfl, rfl⟩ hd kk
theorem gf_G_9 (hc : xk_H K (xc G) cc nL RG d ret P) (hd : xk_d cc pc (.getfield 9) 3 pc') (kk : xk_X K (xk_vw (xc G)) σ pc' lv (.ref (xk_wA (xc G) 2) :: st)) : xk_X K (xk_vw (xc G)) σ pc lv (.ref (xk_wA (xc G) 1) :: st) :=
  x_get 1 hc (xc_clG G) (by decide) (List.mem_filter.mpr ⟨List.mem_append_right _ (List.mem_of_getElem? (i := 25) (by decide +kernel)), by decide +kernel⟩) rfl rfl hd kk
theorem gf_G_15 (hc : xk_H K (xc G) cc nL RG d ret P) (hd : xk_d cc pc (.getfield 15) 3 pc') (kk : xk_X K (xk_vw (xc G)) σ pc' lv (.ref (xk_wA (xc G) 3) :: st)) : xk_X K (xk_vw (xc G)) σ pc lv (.ref (xk_wA (xc G) 1) :: st) :=
  x_get 2 hc (xc_clG G) (by decide) (List.mem_filter.mpr ⟨List.mem_append_right _ (List.mem_of_getElem? (i := 26) (by decide +kernel)), by decide +kernel⟩) rfl rfl hd kk
theorem gf_G_18 (hc : xk_H K (xc G) cc nL RG d ret P) (hd : xk_d cc pc (.getfield 18) 3 pc') (kk : xk_X K (xk_vw (xc G)) σ pc' lv (.ref (xk_wA (xc G) 4) :: st)) : xk_X K (xk_vw (xc G)) σ pc lv (.ref (xk_wA (xc G) 1) :: st) :=
  x_get 3 hc (xc_clG G) (by decide) (List.mem_filter.mpr ⟨List.mem_append_right _ (List.mem_of_getElem? (i := 27) (by decide +kernel)), by decide +kernel⟩) rfl rfl hd kk
theorem gf_L_9 (hc : xk_H K (xc G) cc nL RL d ret P) (hd : xk_d cc pc (.getfield 9) 3 pc') (kk : xk_X K (xk_vw (xc G)) σ pc' lv (.ref (xk_wA (xc G) 6) :: st)) : xk_X K (xk_vw (xc G)) σ pc lv (.ref (xk_wA (xc G) 5) :: st) :=
  x_get 0 hc (xc_clL G) (by decide) (List.mem_filter.mpr ⟨List.mem_append_right _ (List.mem_of_getElem? (i := 44) (by decide +kernel)), by decide +kernel⟩) rfl rfl hd kk
theorem gf_P_83 (hc : xk_H K (xc G) cc nL RP d ret P) (hd : xk_d cc pc (.getfield 83) 3 pc') (kk : xk_X K (xk_vw (xc G)) σ pc' lv (.ref (xk_wA (xc G) 6) :: st)) : xk_X K (xk_vw (xc G)) σ pc lv (.ref (xk_wA (xc G) 5) :: st) :=
  x_getN (host := "LockstepField") 0 hc (xc_clL G) (by decide) (List.mem_filter.mpr ⟨List.mem_append_right _ (List.mem_of_getElem? (i := 45) (by decide +kernel)), by decide +kernel⟩) rfl rfl hd kk
theorem gf_L_15 (hc : xk_H K (xc G) cc nL RL d ret P) (hd : xk_d cc pc (.getfield 15) 3 pc') (kk : xk_X K (xk_vw (xc G)) σ pc' lv (.ref (xk_wA (xc G) 7) :: st)) : xk_X K (xk_vw (xc G)) σ pc lv (.ref (xk_wA (xc G) 5) :: st) :=
  x_get 1 hc (xc_clL G) (by decide) (List.mem_filter.mpr ⟨List.mem_append_right _ (List.mem_of_getElem? (i := 46) (by decide +kernel)), by decide +kernel⟩) rfl rfl hd kk
theorem gf_P_81 (hc : xk_H K (xc G) cc nL RP d ret P) (hd : xk_d cc pc (.getfield 81) 3 pc') (kk : xk_X K (xk_vw (xc G)) σ pc' lv (.ref (xk_wA (xc G) 7) :: st)) : xk_X K (xk_vw (xc G)) σ pc lv (.ref (xk_wA (xc G) 5) :: st) :=
  x_getN (host := "LockstepField") 1 hc (xc_clL G) (by decide) (List.mem_filter.mpr ⟨List.mem_append_right _ (List.mem_of_getElem? (i := 47) (by decide +kernel)), by decide +kernel⟩) rfl rfl hd kk
theorem gf_L_18 (hc : xk_H K (xc G) cc nL RL d ret P) (hd : xk_d cc pc (.getfield 18) 3 pc') (kk : xk_X K (xk_vw (xc G)) σ pc' lv (.ref (xk_wA (xc G) 8) :: st)) : xk_X K (xk_vw (xc G)) σ pc lv (.ref (xk_wA (xc G) 5) :: st) :=
  x_get 2 hc (xc_clL G) (by decide) (List.mem_filter.mpr ⟨List.mem_append_right _ (List.mem_of_getElem? (i := 48) (by decide +kernel)), by decide +kernel⟩) rfl rfl hd kk
theorem gf_P_86 (hc : xk_H K (xc G) cc nL RP d ret P) (hd : xk_d cc pc (.getfield 86) 3 pc') (kk : xk_X K (xk_vw (xc G)) σ pc' lv (.ref (xk_wA (xc G) 8) :: st)) : xk_X K (xk_vw (xc G)) σ pc lv (.ref (xk_wA (xc G) 5) :: st) :=
  x_getN (host := "LockstepField") 2 hc (xc_clL G) (by decide) (List.mem_filter.mpr ⟨List.mem_append_right _ (List.mem_of_getElem? (i := 49) (by decide +kernel)), by decide +kernel⟩) rfl rfl hd kk
theorem gf_L_21 (hc : xk_H K (xc G) cc nL RL d ret P) (hd : xk_d cc pc (.getfield 21) 3 pc') (kk : xk_X K (xk_vw (xc G)) σ pc' lv (.ref (xk_wA (xc G) 9) :: st)) : xk_X K (xk_vw (xc G)) σ pc lv (.ref (xk_wA (xc G) 5) :: st) :=
  x_get 3 hc (xc_clL G) (by decide) (List.mem_filter.mpr ⟨List.mem_append_right _ (List.mem_of_getElem? (i := 50) (by decide +kernel)), by decide +kernel⟩) rfl rfl hd kk
theorem gf_P_89 (hc : xk_H K (xc G) cc nL RP d ret P) (hd : xk_d cc pc (.getfield 89) 3 pc') (kk : xk_X K (xk_vw (xc G)) σ pc' lv (.ref (xk_wA (xc G) 9) :: st)) : xk_X K (xk_vw (xc G)) σ pc lv (.ref (xk_wA (xc G) 5) :: st) :=
  x_getN (host := "LockstepField") 3 hc (xc_clL G) (by decide) (List.mem_filter.mpr ⟨List.mem_append_right _ (List.mem_of_getElem? (i := 51) (by decide +kernel)), by decide +kernel⟩) rfl rfl hd kk
theorem gf_L_24 (hc : xk_H K (xc G) cc nL RL d ret P) (hd : xk_d cc pc (.getfield 24) 3 pc') {v : Int32} (hv : σ.1 5 4 = v) (kk : xk_X K (xk_vw (xc G)) σ pc' lv (.int v :: st)) : xk_X K (xk_vw (xc G)) σ pc lv (.ref (xk_wA (xc G) 5) :: st) :=
  x_get 4 hc (xc_clL G) (by decide) (List.mem_filter.mpr ⟨List.mem_append_right _ (List.mem_of_getElem? (i := 52) (by decide +kernel)), by decide +kernel⟩) rfl rfl hd (by subst hv; exact kk)
theorem pf_L_24 {v : Int32} (hc : xk_H K (xc G) cc nL RL d ret P) (hd : xk_d cc pc (.putfield 24) 3 pc') (kk : xk_X K (xk_vw (xc G)) (xk_up σ 5 4 v) pc' lv st) : xk_X K (xk_vw (xc G)) σ pc lv (.int v :: .ref (xk_wA (xc G) 5) :: st) :=
  x_put 4 hc (xc_clL G) (by decide) (List.mem_filter.mpr ⟨List.mem_append_right _ (List.mem_of_getElem? (i := 52) (by decide +kernel)), by decide +kernel⟩) rfl rfl rfl ⟨vp_nar_int v, rfl⟩ hd kk
theorem gf_F_75 (hc : xk_H K (xc G) cc nL RF d ret P) (hd : xk_d cc pc (.getfield 75) 3 pc') {v : Int32} (hv : σ.1 5 4 = v) (kk : xk_X K (xk_vw (xc G)) σ pc' lv (.int v :: st)) : xk_X K (xk_vw (xc G)) σ pc lv (.ref (xk_wA (xc G) 5) :: st) :=
  x_getN (host := "LockstepField") 4 hc (xc_clL G) (by decide) (List.mem_filter.mpr ⟨List.mem_append_right _ (List.mem_of_getElem? (i := 53) (by decide +kernel)), by decide +kernel⟩) rfl rfl hd (by subst hv; exact kk)
theorem pf_F_75 {v : Int32} (hc : xk_H K (xc G) cc nL RF d ret P) (hd : xk_d cc pc (.putfield 75) 3 pc') (kk : xk_X K (xk_vw (xc G)) (xk_up σ 5 4 v) pc' lv st) : xk_X K (xk_vw (xc G)) σ pc lv (.int v :: .ref (xk_wA (xc G) 5) :: st) :=
  x_putN (host := "LockstepField") 4 hc (xc_clL G) (by decide) (List.mem_filter.mpr ⟨List.mem_append_right _ (List.mem_of_getElem? (i := 53) (by decide +kernel)), by decide +kernel⟩) rfl rfl rfl ⟨vp_nar_int v, rfl⟩ hd kk
theorem gf_P_78 (hc : xk_H K (xc G) cc nL RP d ret P) (hd : xk_d cc pc (.getfield 78) 3 pc') {v : Int32} (hv : σ.1 5 4 = v) (kk : xk_X K (xk_vw (xc G)) σ pc' lv (.int v :: st)) : xk_X K (xk_vw (xc G)) σ pc lv (.ref (xk_wA (xc G) 5) :: st) :=
  x_getN (host := "LockstepField") 4 hc (xc_clL G) (by decide) (List.mem_filter.mpr ⟨List.mem_append_right _ (List.mem_of_getElem? (i := 54) (by decide +kernel)), by decide +kernel⟩) rfl rfl hd (by subst hv; exact kk)
theorem pf_P_78 {v : Int32} (hc : xk_H K (xc G) cc nL RP d ret P) (hd : xk_d cc pc (.putfield 78) 3 pc') (kk : xk_X K (xk_vw (xc G)) (xk_up σ 5 4 v) pc' lv st) : xk_X K (xk_vw (xc G)) σ pc lv (.int v :: .ref (xk_wA (xc G) 5) :: st) :=
  x_putN (host := "LockstepField") 4 hc (xc_clL G) (by decide) (List.mem_filter.mpr ⟨List.mem_append_right _ (List.mem_of_getElem? (i := 54) (by decide +kernel)), by decide +kernel⟩) rfl rfl rfl ⟨vp_nar_int v, rfl⟩ hd kk
theorem gf_U_15 {k : Nat} (hc : xk_H K (xc G) cc nL RU d ret P) (hk : 17 ≤ k ∧ k < 33) (hd : xk_d cc pc (.getfield 15) 3 pc') {v : Int32} (hv : σ.1 k 0 = v) (kk : xk_X K (xk_vw (xc G)) σ pc' lv (.int v :: st)) : xk_X K (xk_vw (xc G)) σ pc lv (.ref (xk_wA (xc G) k) :: st) :=
  x_get 0 hc (xc_clU G) (by decide) (List.mem_filter.mpr ⟨List.mem_append_right _ (List.mem_of_getElem? (i := 79) (by decide +kernel)), by decide +kernel⟩) (xc_shU hk) rfl hd (by subst hv; exact kk)
theorem pf_U_15 {k : Nat} {v : Int32} (hc : xk_H K (xc G) cc nL RU d ret P) (hk : 17 ≤ k ∧ k < 33) (hd : xk_d cc pc (.putfield 15) 3 pc') (kk : xk_X K (xk_vw (xc G)) (xk_up σ k 0 v) pc' lv st) : xk_X K (xk_vw (xc G)) σ pc lv (.int v :: .ref (xk_wA (xc G) k) :: st) :=
  x_put 0 hc (xc_clU G) (by decide) (List.mem_filter.mpr ⟨List.mem_append_right _ (List.mem_of_getElem? (i := 79) (by decide +kernel)), by decide +kernel⟩) rfl (xc_shU hk) rfl ⟨vp_nar_int v, rfl⟩ hd kk
theorem gf_P_37 {k : Nat} (hc : xk_H K (xc G) cc nL RP d ret P) (hk : 17 ≤ k ∧ k < 33) (hd : xk_d cc pc (.getfield 37) 3 pc') {v : Int32} (hv : σ.1 k 0 = v) (kk : xk_X K (xk_vw (xc G)) σ pc' lv (.int v :: st)) : xk_X K (xk_vw (xc G)) σ pc lv (.ref (xk_wA (xc G) k) :: st) :=
  x_getN (host := "LockstepField") 0 hc (xc_clU G) (by decide) (List.mem_filter.mpr ⟨List.mem_append_right _ (List.mem_of_getElem? (i := 80) (by decide +kernel)), by decide +kernel⟩) (xc_shU hk) rfl hd (by subst hv; exact kk)
theorem pf_P_37 {k : Nat} {v : Int32} (hc : xk_H K (xc G) cc nL RP d ret P) (hk : 17 ≤ k ∧ k < 33) (hd : xk_d cc pc (.putfield 37) 3 pc') (kk : xk_X K (xk_vw (xc G)) (xk_up σ k 0 v) pc' lv st) : xk_X K (xk_vw (xc G)) σ pc lv (.int v :: .ref (xk_wA (xc G) k) :: st) :=
  x_putN (host := "LockstepField") 0 hc (xc_clU G) (by decide) (List.mem_filter.mpr ⟨List.mem_append_right _ (List.mem_of_getElem? (i := 80) (by decide +kernel)), by decide +kernel⟩) rfl (xc_shU hk) rfl ⟨vp_nar_int v, rfl⟩ hd kk
theorem gf_U_19 {k : Nat} (hc : xk_H K (xc G) cc nL RU d ret P) (hk : 17 ≤ k ∧ k < 33) (hd : xk_d cc pc (.getfield 19) 3 pc') {v : Int32} (hv : σ.1 k 1 = v) (kk : xk_X K (xk_vw (xc G)) σ pc' lv (.int v :: st)) : xk_X K (xk_vw (xc G)) σ pc lv (.ref (xk_wA (xc G) k) :: st) :=
  x_get 1 hc (xc_clU G) (by decide) (List.mem_filter.mpr ⟨List.mem_append_right _ (List.mem_of_getElem? (i := 81) (by decide +kernel)), by decide +kernel⟩) (xc_shU hk) rfl hd (by subst hv; exact kk)
theorem pf_U_19 {k : Nat} {v : Int32} (hc : xk_H K (xc G) cc nL RU d ret P) (hk : 17 ≤ k ∧ k < 33) (hd : xk_d cc pc (.putfield 19) 3 pc') (kk : xk_X K (xk_vw (xc G)) (xk_up σ k 1 v) pc' lv st) : xk_X K (xk_vw (xc G)) σ pc lv (.int v :: .ref (xk_wA (xc G) k) :: st) :=
  x_put 1 hc (xc_clU G) (by decide) (List.mem_filter.mpr ⟨List.mem_append_right _ (List.mem_of_getElem? (i := 81) (by decide +kernel)), by decide +kernel⟩) rfl (xc_shU hk) rfl ⟨vp_nar_int v, rfl⟩ hd kk
theorem gf_U_25 {k : Nat} (hc : xk_H K (xc G) cc nL RU d ret P) (hk : 17 ≤ k ∧ k < 33) (hd : xk_d cc pc (.getfield 25) 3 pc') {v : Int32} (hv : σ.1 k 2 = v) (kk : xk_X K (xk_vw (xc G)) σ pc' lv (.int v :: st)) : xk_X K (xk_vw (xc G)) σ pc lv (.ref (xk_wA (xc G) k) :: st) :=
  x_get 2 hc (xc_clU G) (by decide) (List.mem_filter.mpr ⟨List.mem_append_right _ (List.mem_of_getElem? (i := 82) (by decide +kernel)), by decide +kernel⟩) (xc_shU hk) rfl hd (by subst hv; exact kk)
theorem pf_U_25 {k : Nat} {v : Int32} (hc : xk_H K (xc G) cc nL RU d ret P) (hk : 17 ≤ k ∧ k < 33) (hd : xk_d cc pc (.putfield 25) 3 pc') (kk : xk_X K (xk_vw (xc G)) (xk_up σ k 2 v) pc' lv st) : xk_X K (xk_vw (xc G)) σ pc lv (.int v :: .ref (xk_wA (xc G) k) :: st) :=
  x_put 2 hc (xc_clU G) (by decide) (List.mem_filter.mpr ⟨List.mem_append_right _ (List.mem_of_getElem? (i := 82) (by decide +kernel)), by decide +kernel⟩) rfl (xc_shU hk) rfl ⟨vp_nar_int v, rfl⟩ hd kk
theorem gf_P_75 {k : Nat} (hc : xk_H K (xc G) cc nL RP d ret P) (hk : 17 ≤ k ∧ k < 33) (hd : xk_d cc pc (.getfield 75) 3 pc') {v : Int32} (hv : σ.1 k 2 = v) (kk : xk_X K (xk_vw (xc G)) σ pc' lv (.int v :: st)) : xk_X K (xk_vw (xc G)) σ pc lv (.ref (xk_wA (xc G) k) :: st) :=
  x_getN (host := "LockstepField") 2 hc (xc_clU G) (by decide) (List.mem_filter.mpr ⟨List.mem_append_right _ (List.mem_of_getElem? (i := 83) (by decide +kernel)), by decide +kernel⟩) (xc_shU hk) rfl hd (by subst hv; exact kk)
theorem pf_P_75 {k : Nat} {v : Int32} (hc : xk_H K (xc G) cc nL RP d ret P) (hk : 17 ≤ k ∧ k < 33) (hd : xk_d cc pc (.putfield 75) 3 pc') (kk : xk_X K (xk_vw (xc G)) (xk_up σ k 2 v) pc' lv st) : xk_X K (xk_vw (xc G)) σ pc lv (.int v :: .ref (xk_wA (xc G) k) :: st) :=
  x_putN (host := "LockstepField") 2 hc (xc_clU G) (by decide) (List.mem_filter.mpr ⟨List.mem_append_right _ (List.mem_of_getElem? (i := 83) (by decide +kernel)), by decide +kernel⟩) rfl (xc_shU hk) rfl ⟨vp_nar_int v, rfl⟩ hd kk
theorem gf_F_101 {k : Nat} (hc : xk_H K (xc G) cc nL RF d ret P) (hk : 17 ≤ k ∧ k < 33) (hd : xk_d cc pc (.getfield 101) 3 pc') {v : Int32} (hv : σ.1 k 2 = v) (kk : xk_X K (xk_vw (xc G)) σ pc' lv (.int v :: st)) : xk_X K (xk_vw (xc G)) σ pc lv (.ref (xk_wA (xc G) k) :: st) :=
  x_getN (host := "LockstepField") 2 hc (xc_clU G) (by decide) (List.mem_filter.mpr ⟨List.mem_append_right _ (List.mem_of_getElem? (i := 84) (by decide +kernel)), by decide +kernel⟩) (xc_shU hk) rfl hd (by subst hv; exact kk)
theorem pf_F_101 {k : Nat} {v : Int32} (hc : xk_H K (xc G) cc nL RF d ret P) (hk : 17 ≤ k ∧ k < 33) (hd : xk_d cc pc (.putfield 101) 3 pc') (kk : xk_X K (xk_vw (xc G)) (xk_up σ k 2 v) pc' lv st) : xk_X K (xk_vw (xc G)) σ pc lv (.int v :: .ref (xk_wA (xc G) k) :: st) :=
  x_putN (host := "LockstepField") 2 hc (xc_clU G) (by decide) (List.mem_filter.mpr ⟨List.mem_append_right _ (List.mem_of_getElem? (i := 84) (by decide +kernel)), by decide +kernel⟩) rfl (xc_shU hk) rfl ⟨vp_nar_int v, rfl⟩ hd kk
theorem gf_U_28 {k : Nat} (hc : xk_H K (xc G) cc nL RU d ret P) (hk : 17 ≤ k ∧ k < 33) (hd : xk_d cc pc (.getfield 28) 3 pc') {v : Int32} (hv : σ.1 k 3 = v) (kk : xk_X K (xk_vw (xc G)) σ pc' lv (.int v :: st)) : xk_X K (xk_vw (xc G)) σ pc lv (.ref (xk_wA (xc G) k) :: st) :=
  x_get 3 hc (xc_clU G) (by decide) (List.mem_filter.mpr ⟨List.mem_append_right _ (List.mem_of_getElem? (i := 85) (by decide +kernel)), by decide +kernel⟩) (xc_shU hk) rfl hd (by subst hv; exact kk)
theorem pf_U_28 {k : Nat} {v : Int32} (hc : xk_H K (xc G) cc nL RU d ret P) (hk : 17 ≤ k ∧ k < 33) (hd : xk_d cc pc (.putfield 28) 3 pc') (kk : xk_X K (xk_vw (xc G)) (xk_up σ k 3 v) pc' lv st) : xk_X K (xk_vw (xc G)) σ pc lv (.int v :: .ref (xk_wA (xc G) k) :: st) :=
  x_put 3 hc (xc_clU G) (by decide) (List.mem_filter.mpr ⟨List.mem_append_right _ (List.mem_of_getElem? (i := 85) (by decide +kernel)), by decide +kernel⟩) rfl (xc_shU hk) rfl ⟨vp_nar_int v, rfl⟩ hd kk
theorem gf_F_104 {k : Nat} (hc : xk_H K (xc G) cc nL RF d ret P) (hk : 17 ≤ k ∧ k < 33) (hd : xk_d cc pc (.getfield 104) 3 pc') {v : Int32} (hv : σ.1 k 3 = v) (kk : xk_X K (xk_vw (xc G)) σ pc' lv (.int v :: st)) : xk_X K (xk_vw (xc G)) σ pc lv (.ref (xk_wA (xc G) k) :: st) :=
  x_getN (host := "LockstepField") 3 hc (xc_clU G) (by decide) (List.mem_filter.mpr ⟨List.mem_append_right _ (List.mem_of_getElem? (i := 86) (by decide +kernel)), by decide +kernel⟩) (xc_shU hk) rfl hd (by subst hv; exact kk)
theorem pf_F_104 {k : Nat} {v : Int32} (hc : xk_H K (xc G) cc nL RF d ret P) (hk : 17 ≤ k ∧ k < 33) (hd : xk_d cc pc (.putfield 104) 3 pc') (kk : xk_X K (xk_vw (xc G)) (xk_up σ k 3 v) pc' lv st) : xk_X K (xk_vw (xc G)) σ pc lv (.int v :: .ref (xk_wA (xc G) k) :: st) :=
  x_putN (host := "LockstepField") 3 hc (xc_clU G) (by decide) (List.mem_filter.mpr ⟨List.mem_append_right _ (List.mem_of_getElem? (i := 86) (by decide +kernel)), by decide +kernel⟩) rfl (xc_shU hk) rfl ⟨vp_nar_int v, rfl⟩ hd kk
theorem gf_P_177 {k : Nat} (hc : xk_H K (xc G) cc nL RP d ret P) (hk : 17 ≤ k ∧ k < 33) (hd : xk_d cc pc (.getfield 177) 3 pc') {v : Int32} (hv : σ.1 k 3 = v) (kk : xk_X K (xk_vw (xc G)) σ pc' lv (.int v :: st)) : xk_X K (xk_vw (xc G)) σ pc lv (.ref (xk_wA (xc G) k) :: st) :=
  x_getN (host := "LockstepField") 3 hc (xc_clU G) (by decide) (List.mem_filter.mpr ⟨List.mem_append_right _ (List.mem_of_getElem? (i := 87) (by decide +kernel)), by decide +kernel⟩) (xc_shU hk) rfl hd (by subst hv; exact kk)
theorem pf_P_177 {k : Nat} {v : Int32} (hc : xk_H K (xc G) cc nL RP d ret P) (hk : 17 ≤ k ∧ k < 33) (hd : xk_d cc pc (.putfield 177) 3 pc') (kk : xk_X K (xk_vw (xc G)) (xk_up σ k 3 v) pc' lv st) : xk_X K (xk_vw (xc G)) σ pc lv (.int v :: .ref (xk_wA (xc G) k) :: st) :=
  x_putN (host := "LockstepField") 3 hc (xc_clU G) (by decide) (List.mem_filter.mpr ⟨List.mem_append_right _ (List.mem_of_getElem? (i := 87) (by decide +kernel)), by decide +kernel⟩) rfl (xc_shU hk) rfl ⟨vp_nar_int v, rfl⟩ hd kk
theorem gf_U_39 {k : Nat} (hc : xk_H K (xc G) cc nL RU d ret P) (hk : 17 ≤ k ∧ k < 33) (hd : xk_d cc pc (.getfield 39) 3 pc') {v : Int32} (hv : σ.1 k 4 = v) (kk : xk_X K (xk_vw (xc G)) σ pc' lv (.int v :: st)) : xk_X K (xk_vw (xc G)) σ pc lv (.ref (xk_wA (xc G) k) :: st) :=
  x_get 4 hc (xc_clU G) (by decide) (List.mem_filter.mpr ⟨List.mem_append_right _ (List.mem_of_getElem? (i := 88) (by decide +kernel)), by decide +kernel⟩) (xc_shU hk) rfl hd (by subst hv; exact kk)
theorem pf_U_39 {k : Nat} {v : Int32} (hc : xk_H K (xc G) cc nL RU d ret P) (hk : 17 ≤ k ∧ k < 33) (hd : xk_d cc pc (.putfield 39) 3 pc') (kk : xk_X K (xk_vw (xc G)) (xk_up σ k 4 v) pc' lv st) : xk_X K (xk_vw (xc G)) σ pc lv (.int v :: .ref (xk_wA (xc G) k) :: st) :=
  x_put 4 hc (xc_clU G) (by decide) (List.mem_filter.mpr ⟨List.mem_append_right _ (List.mem_of_getElem? (i := 88) (by decide +kernel)), by decide +kernel⟩) rfl (xc_shU hk) rfl ⟨vp_nar_int v, rfl⟩ hd kk
theorem gf_P_58 {k : Nat} (hc : xk_H K (xc G) cc nL RP d ret P) (hk : 17 ≤ k ∧ k < 33) (hd : xk_d cc pc (.getfield 58) 3 pc') {v : Int32} (hv : σ.1 k 4 = v) (kk : xk_X K (xk_vw (xc G)) σ pc' lv (.int v :: st)) : xk_X K (xk_vw (xc G)) σ pc lv (.ref (xk_wA (xc G) k) :: st) :=
  x_getN (host := "LockstepField") 4 hc (xc_clU G) (by decide) (List.mem_filter.mpr ⟨List.mem_append_right _ (List.mem_of_getElem? (i := 89) (by decide +kernel)), by decide +kernel⟩) (xc_shU hk) rfl hd (by subst hv; exact kk)
theorem pf_P_58 {k : Nat} {v : Int32} (hc : xk_H K (xc G) cc nL RP d ret P) (hk : 17 ≤ k ∧ k < 33) (hd : xk_d cc pc (.putfield 58) 3 pc') (kk : xk_X K (xk_vw (xc G)) (xk_up σ k 4 v) pc' lv st) : xk_X K (xk_vw (xc G)) σ pc lv (.int v :: .ref (xk_wA (xc G) k) :: st) :=
  x_putN (host := "LockstepField") 4 hc (xc_clU G) (by decide) (List.mem_filter.mpr ⟨List.mem_append_right _ (List.mem_of_getElem? (i := 89) (by decide +kernel)), by decide +kernel⟩) rfl (xc_shU hk) rfl ⟨vp_nar_int v, rfl⟩ hd kk
theorem gf_F_107 {k : Nat} (hc : xk_H K (xc G) cc nL RF d ret P) (hk : 17 ≤ k ∧ k < 33) (hd : xk_d cc pc (.getfield 107) 3 pc') {v : Int32} (hv : σ.1 k 4 = v) (kk : xk_X K (xk_vw (xc G)) σ pc' lv (.int v :: st)) : xk_X K (xk_vw (xc G)) σ pc lv (.ref (xk_wA (xc G) k) :: st) :=
  x_getN (host := "LockstepField") 4 hc (xc_clU G) (by decide) (List.mem_filter.mpr ⟨List.mem_append_right _ (List.mem_of_getElem? (i := 90) (by decide +kernel)), by decide +kernel⟩) (xc_shU hk) rfl hd (by subst hv; exact kk)
theorem pf_F_107 {k : Nat} {v : Int32} (hc : xk_H K (xc G) cc nL RF d ret P) (hk : 17 ≤ k ∧ k < 33) (hd : xk_d cc pc (.putfield 107) 3 pc') (kk : xk_X K (xk_vw (xc G)) (xk_up σ k 4 v) pc' lv st) : xk_X K (xk_vw (xc G)) σ pc lv (.int v :: .ref (xk_wA (xc G) k) :: st) :=
  x_putN (host := "LockstepField") 4 hc (xc_clU G) (by decide) (List.mem_filter.mpr ⟨List.mem_append_right _ (List.mem_of_getElem? (i := 90) (by decide +kernel)), by decide +kernel⟩) rfl (xc_shU hk) rfl ⟨vp_nar_int v, rfl⟩ hd kk
theorem gf_U_42 {k : Nat} (hc : xk_H K (xc G) cc nL RU d ret P) (hk : 17 ≤ k ∧ k < 33) (hd : xk_d cc pc (.getfield 42) 3 pc') {v : Int32} (hv : σ.1 k 5 = v) (kk : xk_X K (xk_vw (xc G)) σ pc' lv (.int v :: st)) : xk_X K (xk_vw (xc G)) σ pc lv (.ref (xk_wA (xc G) k) :: st) :=
  x_get 5 hc (xc_clU G) (by decide) (List.mem_filter.mpr ⟨List.mem_append_right _ (List.mem_of_getElem? (i := 91) (by decide +kernel)), by decide +kernel⟩) (xc_shU hk) rfl hd (by subst hv; exact kk)
theorem pf_U_42 {k : Nat} {v : Int32} (hc : xk_H K (xc G) cc nL RU d ret P) (hk : 17 ≤ k ∧ k < 33) (hd : xk_d cc pc (.putfield 42) 3 pc') (kk : xk_X K (xk_vw (xc G)) (xk_up σ k 5 v) pc' lv st) : xk_X K (xk_vw (xc G)) σ pc lv (.int v :: .ref (xk_wA (xc G) k) :: st) :=
  x_put 5 hc (xc_clU G) (by decide) (List.mem_filter.mpr ⟨List.mem_append_right _ (List.mem_of_getElem? (i := 91) (by decide +kernel)), by decide +kernel⟩) rfl (xc_shU hk) rfl ⟨vp_nar_int v, rfl⟩ hd kk
theorem gf_P_113 {k : Nat} (hc : xk_H K (xc G) cc nL RP d ret P) (hk : 17 ≤ k ∧ k < 33) (hd : xk_d cc pc (.getfield 113) 3 pc') {v : Int32} (hv : σ.1 k 5 = v) (kk : xk_X K (xk_vw (xc G)) σ pc' lv (.int v :: st)) : xk_X K (xk_vw (xc G)) σ pc lv (.ref (xk_wA (xc G) k) :: st) :=
  x_getN (host := "LockstepField") 5 hc (xc_clU G) (by decide) (List.mem_filter.mpr ⟨List.mem_append_right _ (List.mem_of_getElem? (i := 92) (by decide +kernel)), by decide +kernel⟩) (xc_shU hk) rfl hd (by subst hv; exact kk)
theorem pf_P_113 {k : Nat} {v : Int32} (hc : xk_H K (xc G) cc nL RP d ret P) (hk : 17 ≤ k ∧ k < 33) (hd : xk_d cc pc (.putfield 113) 3 pc') (kk : xk_X K (xk_vw (xc G)) (xk_up σ k 5 v) pc' lv st) : xk_X K (xk_vw (xc G)) σ pc lv (.int v :: .ref (xk_wA (xc G) k) :: st) :=
  x_putN (host := "LockstepField") 5 hc (xc_clU G) (by decide) (List.mem_filter.mpr ⟨List.mem_append_right _ (List.mem_of_getElem? (i := 92) (by decide +kernel)), by decide +kernel⟩) rfl (xc_shU hk) rfl ⟨vp_nar_int v, rfl⟩ hd kk
theorem gf_F_110 {k : Nat} (hc : xk_H K (xc G) cc nL RF d ret P) (hk : 17 ≤ k ∧ k < 33) (hd : xk_d cc pc (.getfield 110) 3 pc') {v : Int32} (hv : σ.1 k 5 = v) (kk : xk_X K (xk_vw (xc G)) σ pc' lv (.int v :: st)) : xk_X K (xk_vw (xc G)) σ pc lv (.ref (xk_wA (xc G) k) :: st) :=
  x_getN (host := "LockstepField") 5 hc (xc_clU G) (by decide) (List.mem_filter.mpr ⟨List.mem_append_right _ (List.mem_of_getElem? (i := 93) (by decide +kernel)), by decide +kernel⟩) (xc_shU hk) rfl hd (by subst hv; exact kk)
theorem pf_F_110 {k : Nat} {v : Int32} (hc : xk_H K (xc G) cc nL RF d ret P) (hk : 17 ≤ k ∧ k < 33) (hd : xk_d cc pc (.putfield 110) 3 pc') (kk : xk_X K (xk_vw (xc G)) (xk_up σ k 5 v) pc' lv st) : xk_X K (xk_vw (xc G)) σ pc lv (.int v :: .ref (xk_wA (xc G) k) :: st) :=
  x_putN (host := "LockstepField") 5 hc (xc_clU G) (by decide) (List.mem_filter.mpr ⟨List.mem_append_right _ (List.mem_of_getElem? (i := 93) (by decide +kernel)), by decide +kernel⟩) rfl (xc_shU hk) rfl ⟨vp_nar_int v, rfl⟩ hd kk
theorem gf_U_45 {k : Nat} (hc : xk_H K (xc G) cc nL RU d ret P) (hk : 17 ≤ k ∧ k < 33) (hd : xk_d cc pc (.getfield 45) 3 pc') {v : Int32} (hv : σ.1 k 6 = v) (kk : xk_X K (xk_vw (xc G)) σ pc' lv (.int v :: st)) : xk_X K (xk_vw (xc G)) σ pc lv (.ref (xk_wA (xc G) k) :: st) :=
  x_get 6 hc (xc_clU G) (by decide) (List.mem_filter.mpr ⟨List.mem_append_right _ (List.mem_of_getElem? (i := 94) (by decide +kernel)), by decide +kernel⟩) (xc_shU hk) rfl hd (by subst hv; exact kk)
theorem pf_U_45 {k : Nat} {v : Int32} (hc : xk_H K (xc G) cc nL RU d ret P) (hk : 17 ≤ k ∧ k < 33) (hd : xk_d cc pc (.putfield 45) 3 pc') (kk : xk_X K (xk_vw (xc G)) (xk_up σ k 6 v) pc' lv st) : xk_X K (xk_vw (xc G)) σ pc lv (.int v :: .ref (xk_wA (xc G) k) :: st) :=
  x_put 6 hc (xc_clU G) (by decide) (List.mem_filter.mpr ⟨List.mem_append_right _ (List.mem_of_getElem? (i := 94) (by decide +kernel)), by decide +kernel⟩) rfl (xc_shU hk) rfl ⟨vp_nar_int v, rfl⟩ hd kk
theorem gf_P_180 {k : Nat} (hc : xk_H K (xc G) cc nL RP d ret P) (hk : 17 ≤ k ∧ k < 33) (hd : xk_d cc pc (.getfield 180) 3 pc') {v : Int32} (hv : σ.1 k 6 = v) (kk : xk_X K (xk_vw (xc G)) σ pc' lv (.int v :: st)) : xk_X K (xk_vw (xc G)) σ pc lv (.ref (xk_wA (xc G) k) :: st) :=
  x_getN (host := "LockstepField") 6 hc (xc_clU G) (by decide) (List.mem_filter.mpr ⟨List.mem_append_right _ (List.mem_of_getElem? (i := 95) (by decide +kernel)), by decide +kernel⟩) (xc_shU hk) rfl hd (by subst hv; exact kk)
theorem pf_P_180 {k : Nat} {v : Int32} (hc : xk_H K (xc G) cc nL RP d ret P) (hk : 17 ≤ k ∧ k < 33) (hd : xk_d cc pc (.putfield 180) 3 pc') (kk : xk_X K (xk_vw (xc G)) (xk_up σ k 6 v) pc' lv st) : xk_X K (xk_vw (xc G)) σ pc lv (.int v :: .ref (xk_wA (xc G) k) :: st) :=
  x_putN (host := "LockstepField") 6 hc (xc_clU G) (by decide) (List.mem_filter.mpr ⟨List.mem_append_right _ (List.mem_of_getElem? (i := 95) (by decide +kernel)), by decide +kernel⟩) rfl (xc_shU hk) rfl ⟨vp_nar_int v, rfl⟩ hd kk
theorem gf_U_31 {k : Nat} (hc : xk_H K (xc G) cc nL RU d ret P) (hk : 17 ≤ k ∧ k < 33) (hd : xk_d cc pc (.getfield 31) 3 pc') {v : Int32} (hv : σ.1 k 7 = v) (kk : xk_X K (xk_vw (xc G)) σ pc' lv (.int v :: st)) : xk_X K (xk_vw (xc G)) σ pc lv (.ref (xk_wA (xc G) k) :: st) :=
  x_get 7 hc (xc_clU G) (by decide) (List.mem_filter.mpr ⟨List.mem_append_right _ (List.mem_of_getElem? (i := 96) (by decide +kernel)), by decide +kernel⟩) (xc_shU hk) rfl hd (by subst hv; exact kk)
theorem pf_U_31 {k : Nat} {v : Int32} (hc : xk_H K (xc G) cc nL RU d ret P) (hk : 17 ≤ k ∧ k < 33) (hd : xk_d cc pc (.putfield 31) 3 pc') (hb : v = nI 0 ∨ v = nI 1) (kk : xk_X K (xk_vw (xc G)) (xk_up σ k 7 v) pc' lv st) : xk_X K (xk_vw (xc G)) σ pc lv (.int v :: .ref (xk_wA (xc G) k) :: st) :=
  x_put 7 hc (xc_clU G) (by decide) (List.mem_filter.mpr ⟨List.mem_append_right _ (List.mem_of_getElem? (i := 96) (by decide +kernel)), by decide +kernel⟩) rfl (xc_shU hk) rfl (by rcases hb with rfl | rfl <;> exact ⟨by decide +kernel, by decide +kernel⟩) hd kk
theorem gf_U_9 {k : Nat} (hc : xk_H K (xc G) cc nL RU d ret P) (hk : 17 ≤ k ∧ k < 33) (hd : xk_d cc pc (.getfield 9) 3 pc') (kk : xk_X K (xk_vw (xc G)) σ pc' lv (.ref (xk_wA (xc G) (k + 16)) :: st)) : xk_X K (xk_vw (xc G)) σ pc lv (.ref (xk_wA (xc G) k) :: st) :=
  x_get 8 hc (xc_clU G) (by decide) (List.mem_filter.mpr ⟨List.mem_append_right _ (List.mem_of_getElem? (i := 97) (by decide +kernel)), by decide +kernel⟩) (xc_shU hk) rfl hd kk
theorem gf_P_147 {k : Nat} (hc : xk_H K (xc G) cc nL RP d ret P) (hk : 17 ≤ k ∧ k < 33) (hd : xk_d cc pc (.getfield 147) 3 pc') (kk : xk_X K (xk_vw (xc G)) σ pc' lv (.ref (xk_wA (xc G) (k + 16)) :: st)) : xk_X K (xk_vw (xc G)) σ pc lv (.ref (xk_wA (xc G) k) :: st) :=
  x_getN (host := "LockstepField") 8 hc (xc_clU G) (by decide) (List.mem_filter.mpr ⟨List.mem_append_right _ (List.mem_of_getElem? (i := 98) (by decide +kernel)), by decide +kernel⟩) (xc_shU hk) rfl hd kk
theorem gf_U_61 {k : Nat} (hc : xk_H K (xc G) cc nL RU d ret P) (hk : 17 ≤ k ∧ k < 33) (hd : xk_d cc pc (.getfield 61) 3 pc') {v : Int32} (hv : σ.1 k 9 = v) (kk : xk_X K (xk_vw (xc G)) σ pc' lv (.int v :: st)) : xk_X K (xk_vw (xc G)) σ pc lv (.ref (xk_wA (xc G) k) :: st) :=
  x_get 9 hc (xc_clU G) (by decide) (List.mem_filter.mpr ⟨List.mem_append_right _ (List.mem_of_getElem? (i := 99) (by decide +kernel)), by decide +kernel⟩) (xc_shU hk) rfl hd (by subst hv; exact kk)
theorem pf_U_61 {k : Nat} {v : Int32} (hc : xk_H K (xc G) cc nL RU d ret P) (hk : 17 ≤ k ∧ k < 33) (hd : xk_d cc pc (.putfield 61) 3 pc') (kk : xk_X K (xk_vw (xc G)) (xk_up σ k 9 v) pc' lv st) : xk_X K (xk_vw (xc G)) σ pc lv (.int v :: .ref (xk_wA (xc G) k) :: st) :=
  x_put 9 hc (xc_clU G) (by decide) (List.mem_filter.mpr ⟨List.mem_append_right _ (List.mem_of_getElem? (i := 99) (by decide +kernel)), by decide +kernel⟩) rfl (xc_shU hk) rfl ⟨vp_nar_int v, rfl⟩ hd kk
theorem gf_P_154 {k : Nat} (hc : xk_H K (xc G) cc nL RP d ret P) (hk : 17 ≤ k ∧ k < 33) (hd : xk_d cc pc (.getfield 154) 3 pc') {v : Int32} (hv : σ.1 k 9 = v) (kk : xk_X K (xk_vw (xc G)) σ pc' lv (.int v :: st)) : xk_X K (xk_vw (xc G)) σ pc lv (.ref (xk_wA (xc G) k) :: st) :=
  x_getN (host := "LockstepField") 9 hc (xc_clU G) (by decide) (List.mem_filter.mpr ⟨List.mem_append_right _ (List.mem_of_getElem? (i := 100) (by decide +kernel)), by decide +kernel⟩) (xc_shU hk) rfl hd (by subst hv; exact kk)
theorem pf_P_154 {k : Nat} {v : Int32} (hc : xk_H K (xc G) cc nL RP d ret P) (hk : 17 ≤ k ∧ k < 33) (hd : xk_d cc pc (.putfield 154) 3 pc') (kk : xk_X K (xk_vw (xc G)) (xk_up σ k 9 v) pc' lv st) : xk_X K (xk_vw (xc G)) σ pc lv (.int v :: .ref (xk_wA (xc G) k) :: st) :=
  x_putN (host := "LockstepField") 9 hc (xc_clU G) (by decide) (List.mem_filter.mpr ⟨List.mem_append_right _ (List.mem_of_getElem? (i := 100) (by decide +kernel)), by decide +kernel⟩) rfl (xc_shU hk) rfl ⟨vp_nar_int v, rfl⟩ hd kk
theorem gf_U_64 {k : Nat} (hc : xk_H K (xc G) cc nL RU d ret P) (hk : 17 ≤ k ∧ k < 33) (hd : xk_d cc pc (.getfield 64) 3 pc') {v : Int32} (hv : σ.1 k 10 = v) (kk : xk_X K (xk_vw (xc G)) σ pc' lv (.int v :: st)) : xk_X K (xk_vw (xc G)) σ pc lv (.ref (xk_wA (xc G) k) :: st) :=
  x_get 10 hc (xc_clU G) (by decide) (List.mem_filter.mpr ⟨List.mem_append_right _ (List.mem_of_getElem? (i := 101) (by decide +kernel)), by decide +kernel⟩) (xc_shU hk) rfl hd (by subst hv; exact kk)
theorem pf_U_64 {k : Nat} {v : Int32} (hc : xk_H K (xc G) cc nL RU d ret P) (hk : 17 ≤ k ∧ k < 33) (hd : xk_d cc pc (.putfield 64) 3 pc') (kk : xk_X K (xk_vw (xc G)) (xk_up σ k 10 v) pc' lv st) : xk_X K (xk_vw (xc G)) σ pc lv (.int v :: .ref (xk_wA (xc G) k) :: st) :=
  x_put 10 hc (xc_clU G) (by decide) (List.mem_filter.mpr ⟨List.mem_append_right _ (List.mem_of_getElem? (i := 101) (by decide +kernel)), by decide +kernel⟩) rfl (xc_shU hk) rfl ⟨vp_nar_int v, rfl⟩ hd kk
theorem gf_P_157 {k : Nat} (hc : xk_H K (xc G) cc nL RP d ret P) (hk : 17 ≤ k ∧ k < 33) (hd : xk_d cc pc (.getfield 157) 3 pc') {v : Int32} (hv : σ.1 k 10 = v) (kk : xk_X K (xk_vw (xc G)) σ pc' lv (.int v :: st)) : xk_X K (xk_vw (xc G)) σ pc lv (.ref (xk_wA (xc G) k) :: st) :=
  x_getN (host := "LockstepField") 10 hc (xc_clU G) (by decide) (List.mem_filter.mpr ⟨List.mem_append_right _ (List.mem_of_getElem? (i := 102) (by decide +kernel)), by decide +kernel⟩) (xc_shU hk) rfl hd (by subst hv; exact kk)
theorem pf_P_157 {k : Nat} {v : Int32} (hc : xk_H K (xc G) cc nL RP d ret P) (hk : 17 ≤ k ∧ k < 33) (hd : xk_d cc pc (.putfield 157) 3 pc') (kk : xk_X K (xk_vw (xc G)) (xk_up σ k 10 v) pc' lv st) : xk_X K (xk_vw (xc G)) σ pc lv (.int v :: .ref (xk_wA (xc G) k) :: st) :=
  x_putN (host := "LockstepField") 10 hc (xc_clU G) (by decide) (List.mem_filter.mpr ⟨List.mem_append_right _ (List.mem_of_getElem? (i := 102) (by decide +kernel)), by decide +kernel⟩) rfl (xc_shU hk) rfl ⟨vp_nar_int v, rfl⟩ hd kk
theorem gf_P_21 {p : Nat} (hc : xk_H K (xc G) cc nL RP d ret P) (hp : p < 2) (hd : xk_d cc pc (.getfield 21) 3 pc') (kk : xk_X K (xk_vw (xc G)) σ pc' lv (.ref (xk_wA (xc G) 1) :: st)) : xk_X K (xk_vw (xc G)) σ pc lv (.ref (xk_wA (xc G) (10 + 3 * p)) :: st) :=
  x_get 0 hc (xc_clP G) (by decide) (List.mem_filter.mpr ⟨List.mem_append_right _ (List.mem_of_getElem? (i := 126) (by decide +kernel)), by decide +kernel⟩) (xc_shP hp) rfl hd kk
theorem gf_P_11 {p : Nat} (hc : xk_H K (xc G) cc nL RP d ret P) (hp : p < 2) (hd : xk_d cc pc (.getfield 11) 3 pc') (kk : xk_X K (xk_vw (xc G)) σ pc' lv (.ref (xk_wA (xc G) (11 + 3 * p)) :: st)) : xk_X K (xk_vw (xc G)) σ pc lv (.ref (xk_wA (xc G) (10 + 3 * p)) :: st) :=
  x_get 1 hc (xc_clP G) (by decide) (List.mem_filter.mpr ⟨List.mem_append_right _ (List.mem_of_getElem? (i := 127) (by decide +kernel)), by decide +kernel⟩) (xc_shP hp) rfl hd kk
theorem gf_F_91 {p : Nat} (hc : xk_H K (xc G) cc nL RF d ret P) (hp : p < 2) (hd : xk_d cc pc (.getfield 91) 3 pc') (kk : xk_X K (xk_vw (xc G)) σ pc' lv (.ref (xk_wA (xc G) (11 + 3 * p)) :: st)) : xk_X K (xk_vw (xc G)) σ pc lv (.ref (xk_wA (xc G) (10 + 3 * p)) :: st) :=
  x_getN (host := "LockstepField") 1 hc (xc_clP G) (by decide) (List.mem_filter.mpr ⟨List.mem_append_right _ (List.mem_of_getElem? (i := 128) (by decide +kernel)), by decide +kernel⟩) (xc_shP hp) rfl hd kk
theorem gf_P_17 {p : Nat} (hc : xk_H K (xc G) cc nL RP d ret P) (hp : p < 2) (hd : xk_d cc pc (.getfield 17) 3 pc') (kk : xk_X K (xk_vw (xc G)) σ pc' lv (.ref (xk_wA (xc G) (12 + 3 * p)) :: st)) : xk_X K (xk_vw (xc G)) σ pc lv (.ref (xk_wA (xc G) (10 + 3 * p)) :: st) :=
  x_get 2 hc (xc_clP G) (by decide) (List.mem_filter.mpr ⟨List.mem_append_right _ (List.mem_of_getElem? (i := 129) (by decide +kernel)), by decide +kernel⟩) (xc_shP hp) rfl hd kk
theorem gf_P_26 {p : Nat} (hc : xk_H K (xc G) cc nL RP d ret P) (hp : p < 2) (hd : xk_d cc pc (.getfield 26) 3 pc') {v : Int32} (hv : σ.1 (10 + 3 * p) 3 = v) (kk : xk_X K (xk_vw (xc G)) σ pc' lv (.int v :: st)) : xk_X K (xk_vw (xc G)) σ pc lv (.ref (xk_wA (xc G) (10 + 3 * p)) :: st) :=
  x_get 3 hc (xc_clP G) (by decide) (List.mem_filter.mpr ⟨List.mem_append_right _ (List.mem_of_getElem? (i := 130) (by decide +kernel)), by decide +kernel⟩) (xc_shP hp) rfl hd (by subst hv; exact kk)
theorem pf_P_26 {p : Nat} {v : Int32} (hc : xk_H K (xc G) cc nL RP d ret P) (hp : p < 2) (hd : xk_d cc pc (.putfield 26) 3 pc') (kk : xk_X K (xk_vw (xc G)) (xk_up σ (10 + 3 * p) 3 v) pc' lv st) : xk_X K (xk_vw (xc G)) σ pc lv (.int v :: .ref (xk_wA (xc G) (10 + 3 * p)) :: st) :=
  x_put 3 hc (xc_clP G) (by decide) (List.mem_filter.mpr ⟨List.mem_append_right _ (List.mem_of_getElem? (i := 130) (by decide +kernel)), by decide +kernel⟩) rfl (xc_shP hp) rfl ⟨vp_nar_int v, rfl⟩ hd kk
theorem gf_F_57 {p : Nat} (hc : xk_H K (xc G) cc nL RF d ret P) (hp : p < 2) (hd : xk_d cc pc (.getfield 57) 3 pc') {v : Int32} (hv : σ.1 (10 + 3 * p) 3 = v) (kk : xk_X K (xk_vw (xc G)) σ pc' lv (.int v :: st)) : xk_X K (xk_vw (xc G)) σ pc lv (.ref (xk_wA (xc G) (10 + 3 * p)) :: st) :=
  x_getN (host := "LockstepField") 3 hc (xc_clP G) (by decide) (List.mem_filter.mpr ⟨List.mem_append_right _ (List.mem_of_getElem? (i := 131) (by decide +kernel)), by decide +kernel⟩) (xc_shP hp) rfl hd (by subst hv; exact kk)
theorem pf_F_57 {p : Nat} {v : Int32} (hc : xk_H K (xc G) cc nL RF d ret P) (hp : p < 2) (hd : xk_d cc pc (.putfield 57) 3 pc') (kk : xk_X K (xk_vw (xc G)) (xk_up σ (10 + 3 * p) 3 v) pc' lv st) : xk_X K (xk_vw (xc G)) σ pc lv (.int v :: .ref (xk_wA (xc G) (10 + 3 * p)) :: st) :=
  x_putN (host := "LockstepField") 3 hc (xc_clP G) (by decide) (List.mem_filter.mpr ⟨List.mem_append_right _ (List.mem_of_getElem? (i := 131) (by decide +kernel)), by decide +kernel⟩) rfl (xc_shP hp) rfl ⟨vp_nar_int v, rfl⟩ hd kk
theorem gf_F_10 (hc : xk_H K (xc G) cc nL RF d ret P) (hd : xk_d cc pc (.getfield 10) 3 pc') (kk : xk_X K (xk_vw (xc G)) σ pc' lv (.ref (xk_wA (xc G) 1) :: st)) : xk_X K (xk_vw (xc G)) σ pc lv (.ref (xk_wA (xc G) 0) :: st) :=
  x_get 0 hc (xc_clF G) (by decide) (List.mem_filter.mpr ⟨List.mem_append_right _ (List.mem_of_getElem? (i := 141) (by decide +kernel)), by decide +kernel⟩) rfl rfl hd kk
theorem gf_F_19 (hc : xk_H K (xc G) cc nL RF d ret P) (hd : xk_d cc pc (.getfield 19) 3 pc') (kk : xk_X K (xk_vw (xc G)) σ pc' lv (.ref (xk_wA (xc G) 5) :: st)) : xk_X K (xk_vw (xc G)) σ pc lv (.ref (xk_wA (xc G) 0) :: st) :=
  x_get 1 hc (xc_clF G) (by decide) (List.mem_filter.mpr ⟨List.mem_append_right _ (List.mem_of_getElem? (i := 142) (by decide +kernel)), by decide +kernel⟩) rfl rfl hd kk
theorem gf_F_28 (hc : xk_H K (xc G) cc nL RF d ret P) (hd : xk_d cc pc (.getfield 28) 3 pc') (kk : xk_X K (xk_vw (xc G)) σ pc' lv (.ref (xk_wA (xc G) 10) :: st)) : xk_X K (xk_vw (xc G)) σ pc lv (.ref (xk_wA (xc G) 0) :: st) :=
  x_get 2 hc (xc_clF G) (by decide) (List.mem_filter.mpr ⟨List.mem_append_right _ (List.mem_of_getElem? (i := 143) (by decide +kernel)), by decide +kernel⟩) rfl rfl hd kk
theorem gf_F_32 (hc : xk_H K (xc G) cc nL RF d ret P) (hd : xk_d cc pc (.getfield 32) 3 pc') (kk : xk_X K (xk_vw (xc G)) σ pc' lv (.ref (xk_wA (xc G) 13) :: st)) : xk_X K (xk_vw (xc G)) σ pc lv (.ref (xk_wA (xc G) 0) :: st) :=
  x_get 3 hc (xc_clF G) (by decide) (List.mem_filter.mpr ⟨List.mem_append_right _ (List.mem_of_getElem? (i := 144) (by decide +kernel)), by decide +kernel⟩) rfl rfl hd kk
theorem gf_F_35 (hc : xk_H K (xc G) cc nL RF d ret P) (hd : xk_d cc pc (.getfield 35) 3 pc') (kk : xk_X K (xk_vw (xc G)) σ pc' lv (.ref (xk_wA (xc G) 16) :: st)) : xk_X K (xk_vw (xc G)) σ pc lv (.ref (xk_wA (xc G) 0) :: st) :=
  x_get 4 hc (xc_clF G) (by decide) (List.mem_filter.mpr ⟨List.mem_append_right _ (List.mem_of_getElem? (i := 145) (by decide +kernel)), by decide +kernel⟩) rfl rfl hd kk
theorem gf_F_72 (hc : xk_H K (xc G) cc nL RF d ret P) (hd : xk_d cc pc (.getfield 72) 3 pc') {v : Int32} (hv : σ.1 0 5 = v) (kk : xk_X K (xk_vw (xc G)) σ pc' lv (.int v :: st)) : xk_X K (xk_vw (xc G)) σ pc lv (.ref (xk_wA (xc G) 0) :: st) :=
  x_get 5 hc (xc_clF G) (by decide) (List.mem_filter.mpr ⟨List.mem_append_right _ (List.mem_of_getElem? (i := 146) (by decide +kernel)), by decide +kernel⟩) rfl rfl hd (by subst hv; exact kk)
theorem pf_F_72 {v : Int32} (hc : xk_H K (xc G) cc nL RF d ret P) (hd : xk_d cc pc (.putfield 72) 3 pc') (kk : xk_X K (xk_vw (xc G)) (xk_up σ 0 5 v) pc' lv st) : xk_X K (xk_vw (xc G)) σ pc lv (.int v :: .ref (xk_wA (xc G) 0) :: st) :=
  x_put 5 hc (xc_clF G) (by decide) (List.mem_filter.mpr ⟨List.mem_append_right _ (List.mem_of_getElem? (i := 146) (by decide +kernel)), by decide +kernel⟩) rfl rfl rfl ⟨vp_nar_int v, rfl⟩ hd kk
theorem gf_F_39 (hc : xk_H K (xc G) cc nL RF d ret P) (hd : xk_d cc pc (.getfield 39) 3 pc') {v : Int32} (hv : σ.1 0 6 = v) (kk : xk_X K (xk_vw (xc G)) σ pc' lv (.int v :: st)) : xk_X K (xk_vw (xc G)) σ pc lv (.ref (xk_wA (xc G) 0) :: st) :=
  x_get 6 hc (xc_clF G) (by decide) (List.mem_filter.mpr ⟨List.mem_append_right _ (List.mem_of_getElem? (i := 147) (by decide +kernel)), by decide +kernel⟩) rfl rfl hd (by subst hv; exact kk)
theorem pf_F_39 {v : Int32} (hc : xk_H K (xc G) cc nL RF d ret P) (hd : xk_d cc pc (.putfield 39) 3 pc') (hb : v = nI 0 ∨ v = nI 1) (kk : xk_X K (xk_vw (xc G)) (xk_up σ 0 6 v) pc' lv st) : xk_X K (xk_vw (xc G)) σ pc lv (.int v :: .ref (xk_wA (xc G) 0) :: st) :=
  x_put 6 hc (xc_clF G) (by decide) (List.mem_filter.mpr ⟨List.mem_append_right _ (List.mem_of_getElem? (i := 147) (by decide +kernel)), by decide +kernel⟩) rfl rfl rfl (by rcases hb with rfl | rfl <;> exact ⟨by decide +kernel, by decide +kernel⟩) hd kk
theorem gf_M_7 (hc : xk_H K (xm G) cc nL RM d ret P) (hd : xk_d cc pc (.getfield 7) 3 pc') (kk : xk_X K (xk_vw (xm G)) σ pc' lv (.ref (xk_wA (xm G) 1) :: st)) : xk_X K (xk_vw (xm G)) σ pc lv (.ref (xk_wA (xm G) 0) :: st) :=
  x_get 0 hc (xm_clM G) (by decide) (List.mem_filter.mpr ⟨List.mem_append_right _ (List.mem_of_getElem? (i := 415) (by decide +kernel)), by decide +kernel⟩) rfl rfl hd kk
theorem gf_M_89 (hc : xk_H K (xm G) cc nL RM d ret P) (hd : xk_d cc pc (.getfield 89) 3 pc') {v : Int32} (hv : σ.1 0 1 = v) (kk : xk_X K (xk_vw (xm G)) σ pc' lv (.int v :: st)) : xk_X K (xk_vw (xm G)) σ pc lv (.ref (xk_wA (xm G) 0) :: st) :=
  x_get 1 hc (xm_clM G) (by decide) (List.mem_filter.mpr ⟨List.mem_append_right _ (List.mem_of_getElem? (i := 416) (by decide +kernel)), by decide +kernel⟩) rfl rfl hd (by subst hv; exact kk)
theorem pf_M_89 {v : Int32} (hc : xk_H K (xm G) cc nL RM d ret P) (hd : xk_d cc pc (.putfield 89) 3 pc') (kk : xk_X K (xk_vw (xm G)) (xk_up σ 0 1 v) pc' lv st) : xk_X K (xk_vw (xm G)) σ pc lv (.int v :: .ref (xk_wA (xm G) 0) :: st) :=
  x_put 1 hc (xm_clM G) (by decide) (List.mem_filter.mpr ⟨List.mem_append_right _ (List.mem_of_getElem? (i := 416) (by decide +kernel)), by decide +kernel⟩) rfl rfl rfl ⟨vp_nar_int v, rfl⟩ hd kk
theorem gf_M_13 (hc : xk_H K (xm G) cc nL RM d ret P) (hd : xk_d cc pc (.getfield 13) 3 pc') (kk : xk_X K (xk_vw (xm G)) σ pc' lv (.ref (xk_wA (xm G) 2) :: st)) : xk_X K (xk_vw (xm G)) σ pc lv (.ref (xk_wA (xm G) 0) :: st) :=
  x_get 2 hc (xm_clM G) (by decide) (List.mem_filter.mpr ⟨List.mem_append_right _ (List.mem_of_getElem? (i := 417) (by decide +kernel)), by decide +kernel⟩) rfl rfl hd kk
theorem gf_M_17 (hc : xk_H K (xm G) cc nL RM d ret P) (hd : xk_d cc pc (.getfield 17) 3 pc') (kk : xk_X K (xk_vw (xm G)) σ pc' lv (.ref (xk_wA (xm G) 3) :: st)) : xk_X K (xk_vw (xm G)) σ pc lv (.ref (xk_wA (xm G) 0) :: st) :=
  x_get 3 hc (xm_clM G) (by decide) (List.mem_filter.mpr ⟨List.mem_append_right _ (List.mem_of_getElem? (i := 418) (by decide +kernel)), by decide +kernel⟩) rfl rfl hd kk
theorem gf_M_93 (hc : xk_H K (xm G) cc nL RM d ret P) (hd : xk_d cc pc (.getfield 93) 3 pc') {v : Int32} (hv : σ.1 0 4 = v) (kk : xk_X K (xk_vw (xm G)) σ pc' lv (.int v :: st)) : xk_X K (xk_vw (xm G)) σ pc lv (.ref (xk_wA (xm G) 0) :: st) :=
  x_get 4 hc (xm_clM G) (by decide) (List.mem_filter.mpr ⟨List.mem_append_right _ (List.mem_of_getElem? (i := 419) (by decide +kernel)), by decide +kernel⟩) rfl rfl hd (by subst hv; exact kk)
theorem pf_M_93 {v : Int32} (hc : xk_H K (xm G) cc nL RM d ret P) (hd : xk_d cc pc (.putfield 93) 3 pc') (hb : v = nI 0 ∨ v = nI 1) (kk : xk_X K (xk_vw (xm G)) (xk_up σ 0 4 v) pc' lv st) : xk_X K (xk_vw (xm G)) σ pc lv (.int v :: .ref (xk_wA (xm G) 0) :: st) :=
  x_put 4 hc (xm_clM G) (by decide) (List.mem_filter.mpr ⟨List.mem_append_right _ (List.mem_of_getElem? (i := 419) (by decide +kernel)), by decide +kernel⟩) rfl rfl rfl (by rcases hb with rfl | rfl <;> exact ⟨by decide +kernel, by decide +kernel⟩) hd kk
theorem gf_M_107 (hc : xk_H K (xm G) cc nL RM d ret P) (hd : xk_d cc pc (.getfield 107) 3 pc') {v : Int32} (hv : σ.1 0 5 = v) (kk : xk_X K (xk_vw (xm G)) σ pc' lv (.int v :: st)) : xk_X K (xk_vw (xm G)) σ pc lv (.ref (xk_wA (xm G) 0) :: st) :=
  x_get 5 hc (xm_clM G) (by decide) (List.mem_filter.mpr ⟨List.mem_append_right _ (List.mem_of_getElem? (i := 420) (by decide +kernel)), by decide +kernel⟩) rfl rfl hd (by subst hv; exact kk)
theorem pf_M_107 {v : Int32} (hc : xk_H K (xm G) cc nL RM d ret P) (hd : xk_d cc pc (.putfield 107) 3 pc') (kk : xk_X K (xk_vw (xm G)) (xk_up σ 0 5 v) pc' lv st) : xk_X K (xk_vw (xm G)) σ pc lv (.int v :: .ref (xk_wA (xm G) 0) :: st) :=
  x_put 5 hc (xm_clM G) (by decide) (List.mem_filter.mpr ⟨List.mem_append_right _ (List.mem_of_getElem? (i := 420) (by decide +kernel)), by decide +kernel⟩) rfl rfl rfl ⟨vp_nar_int v, rfl⟩ hd kk
theorem gf_M_20 (hc : xk_H K (xm G) cc nL RM d ret P) (hd : xk_d cc pc (.getfield 20) 3 pc') (kk : xk_X K (xk_vw (xm G)) σ pc' lv (.ref (xk_wA (xm G) 4) :: st)) : xk_X K (xk_vw (xm G)) σ pc lv (.ref (xk_wA (xm G) 0) :: st) :=
  x_get 6 hc (xm_clM G) (by decide) (List.mem_filter.mpr ⟨List.mem_append_right _ (List.mem_of_getElem? (i := 421) (by decide +kernel)), by decide +kernel⟩) rfl rfl hd kk
theorem gf_M_110 (hc : xk_H K (xm G) cc nL RM d ret P) (hd : xk_d cc pc (.getfield 110) 3 pc') {v : Int32} (hv : σ.1 0 7 = v) (kk : xk_X K (xk_vw (xm G)) σ pc' lv (.int v :: st)) : xk_X K (xk_vw (xm G)) σ pc lv (.ref (xk_wA (xm G) 0) :: st) :=
  x_get 7 hc (xm_clM G) (by decide) (List.mem_filter.mpr ⟨List.mem_append_right _ (List.mem_of_getElem? (i := 422) (by decide +kernel)), by decide +kernel⟩) rfl rfl hd (by subst hv; exact kk)
theorem pf_M_110 {v : Int32} (hc : xk_H K (xm G) cc nL RM d ret P) (hd : xk_d cc pc (.putfield 110) 3 pc') (kk : xk_X K (xk_vw (xm G)) (xk_up σ 0 7 v) pc' lv st) : xk_X K (xk_vw (xm G)) σ pc lv (.int v :: .ref (xk_wA (xm G) 0) :: st) :=
  x_put 7 hc (xm_clM G) (by decide) (List.mem_filter.mpr ⟨List.mem_append_right _ (List.mem_of_getElem? (i := 422) (by decide +kernel)), by decide +kernel⟩) rfl rfl rfl ⟨vp_nar_int v, rfl⟩ hd kk
theorem gf_M_23 (hc : xk_H K (xm G) cc nL RM d ret P) (hd : xk_d cc pc (.getfield 23) 3 pc') (kk : xk_X K (xk_vw (xm G)) σ pc' lv (.ref (xk_wA (xm G) 5) :: st)) : xk_X K (xk_vw (xm G)) σ pc lv (.ref (xk_wA (xm G) 0) :: st) :=
  x_get 8 hc (xm_clM G) (by decide) (List.mem_filter.mpr ⟨List.mem_append_right _ (List.mem_of_getElem? (i := 423) (by decide +kernel)), by decide +kernel⟩) rfl rfl hd kk
theorem gf_M_26 (hc : xk_H K (xm G) cc nL RM d ret P) (hd : xk_d cc pc (.getfield 26) 3 pc') (kk : xk_X K (xk_vw (xm G)) σ pc' lv (.ref (xk_wA (xm G) 6) :: st)) : xk_X K (xk_vw (xm G)) σ pc lv (.ref (xk_wA (xm G) 0) :: st) :=
  x_get 9 hc (xm_clM G) (by decide) (List.mem_filter.mpr ⟨List.mem_append_right _ (List.mem_of_getElem? (i := 424) (by decide +kernel)), by decide +kernel⟩) rfl rfl hd kk
theorem gf_M_29 (hc : xk_H K (xm G) cc nL RM d ret P) (hd : xk_d cc pc (.getfield 29) 3 pc') (kk : xk_X K (xk_vw (xm G)) σ pc' lv (.ref (xk_wA (xm G) 7) :: st)) : xk_X K (xk_vw (xm G)) σ pc lv (.ref (xk_wA (xm G) 0) :: st) :=
  x_get 10 hc (xm_clM G) (by decide) (List.mem_filter.mpr ⟨List.mem_append_right _ (List.mem_of_getElem? (i := 425) (by decide +kernel)), by decide +kernel⟩) rfl rfl hd kk
theorem gf_M_32 (hc : xk_H K (xm G) cc nL RM d ret P) (hd : xk_d cc pc (.getfield 32) 3 pc') (kk : xk_X K (xk_vw (xm G)) σ pc' lv (.ref (xk_wA (xm G) 8) :: st)) : xk_X K (xk_vw (xm G)) σ pc lv (.ref (xk_wA (xm G) 0) :: st) :=
  x_get 11 hc (xm_clM G) (by decide) (List.mem_filter.mpr ⟨List.mem_append_right _ (List.mem_of_getElem? (i := 426) (by decide +kernel)), by decide +kernel⟩) rfl rfl hd kk
theorem gf_M_35 (hc : xk_H K (xm G) cc nL RM d ret P) (hd : xk_d cc pc (.getfield 35) 3 pc') (kk : xk_X K (xk_vw (xm G)) σ pc' lv (.ref (xk_wA (xm G) 9) :: st)) : xk_X K (xk_vw (xm G)) σ pc lv (.ref (xk_wA (xm G) 0) :: st) :=
  x_get 12 hc (xm_clM G) (by decide) (List.mem_filter.mpr ⟨List.mem_append_right _ (List.mem_of_getElem? (i := 427) (by decide +kernel)), by decide +kernel⟩) rfl rfl hd kk
theorem gf_M_38 (hc : xk_H K (xm G) cc nL RM d ret P) (hd : xk_d cc pc (.getfield 38) 3 pc') (kk : xk_X K (xk_vw (xm G)) σ pc' lv (.ref (xk_wA (xm G) 10) :: st)) : xk_X K (xk_vw (xm G)) σ pc lv (.ref (xk_wA (xm G) 0) :: st) :=
  x_get 13 hc (xm_clM G) (by decide) (List.mem_filter.mpr ⟨List.mem_append_right _ (List.mem_of_getElem? (i := 428) (by decide +kernel)), by decide +kernel⟩) rfl rfl hd kk
theorem gf_M_41 (hc : xk_H K (xm G) cc nL RM d ret P) (hd : xk_d cc pc (.getfield 41) 3 pc') (kk : xk_X K (xk_vw (xm G)) σ pc' lv (.ref (xk_wA (xm G) 11) :: st)) : xk_X K (xk_vw (xm G)) σ pc lv (.ref (xk_wA (xm G) 0) :: st) :=
  x_get 14 hc (xm_clM G) (by decide) (List.mem_filter.mpr ⟨List.mem_append_right _ (List.mem_of_getElem? (i := 429) (by decide +kernel)), by decide +kernel⟩) rfl rfl hd kk
theorem gf_M_44 (hc : xk_H K (xm G) cc nL RM d ret P) (hd : xk_d cc pc (.getfield 44) 3 pc') (kk : xk_X K (xk_vw (xm G)) σ pc' lv (.ref (xk_wA (xm G) 12) :: st)) : xk_X K (xk_vw (xm G)) σ pc lv (.ref (xk_wA (xm G) 0) :: st) :=
  x_get 15 hc (xm_clM G) (by decide) (List.mem_filter.mpr ⟨List.mem_append_right _ (List.mem_of_getElem? (i := 430) (by decide +kernel)), by decide +kernel⟩) rfl rfl hd kk
theorem gf_M_47 (hc : xk_H K (xm G) cc nL RM d ret P) (hd : xk_d cc pc (.getfield 47) 3 pc') (kk : xk_X K (xk_vw (xm G)) σ pc' lv (.ref (xk_wA (xm G) 13) :: st)) : xk_X K (xk_vw (xm G)) σ pc lv (.ref (xk_wA (xm G) 0) :: st) :=
  x_get 16 hc (xm_clM G) (by decide) (List.mem_filter.mpr ⟨List.mem_append_right _ (List.mem_of_getElem? (i := 431) (by decide +kernel)), by decide +kernel⟩) rfl rfl hd kk
theorem gf_M_50 (hc : xk_H K (xm G) cc nL RM d ret P) (hd : xk_d cc pc (.getfield 50) 3 pc') (kk : xk_X K (xk_vw (xm G)) σ pc' lv (.ref (xk_wA (xm G) 14) :: st)) : xk_X K (xk_vw (xm G)) σ pc lv (.ref (xk_wA (xm G) 0) :: st) :=
  x_get 17 hc (xm_clM G) (by decide) (List.mem_filter.mpr ⟨List.mem_append_right _ (List.mem_of_getElem? (i := 432) (by decide +kernel)), by decide +kernel⟩) rfl rfl hd kk
theorem gf_M_53 (hc : xk_H K (xm G) cc nL RM d ret P) (hd : xk_d cc pc (.getfield 53) 3 pc') (kk : xk_X K (xk_vw (xm G)) σ pc' lv (.ref (xk_wA (xm G) 15) :: st)) : xk_X K (xk_vw (xm G)) σ pc lv (.ref (xk_wA (xm G) 0) :: st) :=
  x_get 18 hc (xm_clM G) (by decide) (List.mem_filter.mpr ⟨List.mem_append_right _ (List.mem_of_getElem? (i := 433) (by decide +kernel)), by decide +kernel⟩) rfl rfl hd kk
theorem gf_M_56 (hc : xk_H K (xm G) cc nL RM d ret P) (hd : xk_d cc pc (.getfield 56) 3 pc') (kk : xk_X K (xk_vw (xm G)) σ pc' lv (.ref (xk_wA (xm G) 16) :: st)) : xk_X K (xk_vw (xm G)) σ pc lv (.ref (xk_wA (xm G) 0) :: st) :=
  x_get 19 hc (xm_clM G) (by decide) (List.mem_filter.mpr ⟨List.mem_append_right _ (List.mem_of_getElem? (i := 434) (by decide +kernel)), by decide +kernel⟩) rfl rfl hd kk
theorem gf_M_59 (hc : xk_H K (xm G) cc nL RM d ret P) (hd : xk_d cc pc (.getfield 59) 3 pc') (kk : xk_X K (xk_vw (xm G)) σ pc' lv (.ref (xk_wA (xm G) 17) :: st)) : xk_X K (xk_vw (xm G)) σ pc lv (.ref (xk_wA (xm G) 0) :: st) :=
  x_get 20 hc (xm_clM G) (by decide) (List.mem_filter.mpr ⟨List.mem_append_right _ (List.mem_of_getElem? (i := 435) (by decide +kernel)), by decide +kernel⟩) rfl rfl hd kk
theorem gf_M_62 (hc : xk_H K (xm G) cc nL RM d ret P) (hd : xk_d cc pc (.getfield 62) 3 pc') (kk : xk_X K (xk_vw (xm G)) σ pc' lv (.ref (xk_wA (xm G) 18) :: st)) : xk_X K (xk_vw (xm G)) σ pc lv (.ref (xk_wA (xm G) 0) :: st) :=
  x_get 21 hc (xm_clM G) (by decide) (List.mem_filter.mpr ⟨List.mem_append_right _ (List.mem_of_getElem? (i := 436) (by decide +kernel)), by decide +kernel⟩) rfl rfl hd kk
theorem gf_M_65 (hc : xk_H K (xm G) cc nL RM d ret P) (hd : xk_d cc pc (.getfield 65) 3 pc') (kk : xk_X K (xk_vw (xm G)) σ pc' lv (.ref (xk_wA (xm G) 19) :: st)) : xk_X K (xk_vw (xm G)) σ pc lv (.ref (xk_wA (xm G) 0) :: st) :=
  x_get 22 hc (xm_clM G) (by decide) (List.mem_filter.mpr ⟨List.mem_append_right _ (List.mem_of_getElem? (i := 437) (by decide +kernel)), by decide +kernel⟩) rfl rfl hd kk
theorem gf_M_68 (hc : xk_H K (xm G) cc nL RM d ret P) (hd : xk_d cc pc (.getfield 68) 3 pc') (kk : xk_X K (xk_vw (xm G)) σ pc' lv (.ref (xk_wA (xm G) 20) :: st)) : xk_X K (xk_vw (xm G)) σ pc lv (.ref (xk_wA (xm G) 0) :: st) :=
  x_get 23 hc (xm_clM G) (by decide) (List.mem_filter.mpr ⟨List.mem_append_right _ (List.mem_of_getElem? (i := 438) (by decide +kernel)), by decide +kernel⟩) rfl rfl hd kk
theorem gf_M_71 (hc : xk_H K (xm G) cc nL RM d ret P) (hd : xk_d cc pc (.getfield 71) 3 pc') (kk : xk_X K (xk_vw (xm G)) σ pc' lv (.ref (xk_wA (xm G) 21) :: st)) : xk_X K (xk_vw (xm G)) σ pc lv (.ref (xk_wA (xm G) 0) :: st) :=
  x_get 24 hc (xm_clM G) (by decide) (List.mem_filter.mpr ⟨List.mem_append_right _ (List.mem_of_getElem? (i := 439) (by decide +kernel)), by decide +kernel⟩) rfl rfl hd kk
theorem gf_M_74 (hc : xk_H K (xm G) cc nL RM d ret P) (hd : xk_d cc pc (.getfield 74) 3 pc') (kk : xk_X K (xk_vw (xm G)) σ pc' lv (.ref (xk_wA (xm G) 22) :: st)) : xk_X K (xk_vw (xm G)) σ pc lv (.ref (xk_wA (xm G) 0) :: st) :=
  x_get 25 hc (xm_clM G) (by decide) (List.mem_filter.mpr ⟨List.mem_append_right _ (List.mem_of_getElem? (i := 440) (by decide +kernel)), by decide +kernel⟩) rfl rfl hd kk
theorem gf_M_77 (hc : xk_H K (xm G) cc nL RM d ret P) (hd : xk_d cc pc (.getfield 77) 3 pc') (kk : xk_X K (xk_vw (xm G)) σ pc' lv (.ref (xk_wA (xm G) 23) :: st)) : xk_X K (xk_vw (xm G)) σ pc lv (.ref (xk_wA (xm G) 0) :: st) :=
  x_get 26 hc (xm_clM G) (by decide) (List.mem_filter.mpr ⟨List.mem_append_right _ (List.mem_of_getElem? (i := 441) (by decide +kernel)), by decide +kernel⟩) rfl rfl hd kk
theorem gf_M_80 (hc : xk_H K (xm G) cc nL RM d ret P) (hd : xk_d cc pc (.getfield 80) 3 pc') (kk : xk_X K (xk_vw (xm G)) σ pc' lv (.ref (xk_wA (xm G) 24) :: st)) : xk_X K (xk_vw (xm G)) σ pc lv (.ref (xk_wA (xm G) 0) :: st) :=
  x_get 27 hc (xm_clM G) (by decide) (List.mem_filter.mpr ⟨List.mem_append_right _ (List.mem_of_getElem? (i := 442) (by decide +kernel)), by decide +kernel⟩) rfl rfl hd kk
theorem gf_M_83 (hc : xk_H K (xm G) cc nL RM d ret P) (hd : xk_d cc pc (.getfield 83) 3 pc') (kk : xk_X K (xk_vw (xm G)) σ pc' lv (.ref (xk_wA (xm G) 25) :: st)) : xk_X K (xk_vw (xm G)) σ pc lv (.ref (xk_wA (xm G) 0) :: st) :=
  x_get 28 hc (xm_clM G) (by decide) (List.mem_filter.mpr ⟨List.mem_append_right _ (List.mem_of_getElem? (i := 443) (by decide +kernel)), by decide +kernel⟩) rfl rfl hd kk
theorem gf_M_86 (hc : xk_H K (xm G) cc nL RM d ret P) (hd : xk_d cc pc (.getfield 86) 3 pc') (kk : xk_X K (xk_vw (xm G)) σ pc' lv (.ref (xk_wA (xm G) 26) :: st)) : xk_X K (xk_vw (xm G)) σ pc lv (.ref (xk_wA (xm G) 0) :: st) :=
  x_get 29 hc (xm_clM G) (by decide) (List.mem_filter.mpr ⟨List.mem_append_right _ (List.mem_of_getElem? (i := 444) (by decide +kernel)), by decide +kernel⟩) rfl rfl hd kk
theorem cy_F_wall (G : xk_D) : xk_CY (xc G) y_F_wall 2 := ⟨(List.mem_filter.mpr ⟨List.mem_append_right _ (List.mem_of_getElem? (i := 166) (by decide +kernel)), by decide +kernel⟩), (List.mem_filter.mpr ⟨List.mem_append_right _ (List.mem_of_getElem? (i := 1) (by decide +kernel)), by decide +kernel⟩), ⟨by decide +kernel, by decide +kernel, by decide +kernel⟩, by decide⟩
theorem cy_F_isTile (G : xk_D) : xk_CY (xc G) y_F_isTile 1 := ⟨(List.mem_filter.mpr ⟨List.mem_append_right _ (List.mem_of_getElem? (i := 169) (by decide +kernel)), by decide +kernel⟩), (List.mem_filter.mpr ⟨List.mem_append_right _ (List.mem_of_getElem? (i := 1) (by decide +kernel)), by decide +kernel⟩), ⟨by decide +kernel, by decide +kernel, by decide +kernel⟩, by decide⟩
theorem cy_P_isTaken (G : xk_D) : xk_CY (xc G) y_P_isTaken 1 := ⟨(List.mem_filter.mpr ⟨List.mem_append_right _ (List.mem_of_getElem? (i := 173) (by decide +kernel)), by decide +kernel⟩), (List.mem_filter.mpr ⟨List.mem_append_right _ (List.mem_of_getElem? (i := 4) (by decide +kernel)), by decide +kernel⟩), ⟨by decide +kernel, by decide +kernel, by decide +kernel⟩, by decide⟩
theorem cy_P_takenTiles (G : xk_D) : xk_CY (xc G) y_P_takenTiles 0 := ⟨(List.mem_filter.mpr ⟨List.mem_append_right _ (List.mem_of_getElem? (i := 177) (by decide +kernel)), by decide +kernel⟩), (List.mem_filter.mpr ⟨List.mem_append_right _ (List.mem_of_getElem? (i := 4) (by decide +kernel)), by decide +kernel⟩), ⟨by decide +kernel, by decide +kernel, by decide +kernel⟩, by decide⟩
theorem cy_U_isDead (G : xk_D) : xk_CY (xc G) y_U_isDead 0 := ⟨(List.mem_filter.mpr ⟨List.mem_append_right _ (List.mem_of_getElem? (i := 181) (by decide +kernel)), by decide +kernel⟩), (List.mem_filter.mpr ⟨List.mem_append_right _ (List.mem_of_getElem? (i := 5) (by decide +kernel)), by decide +kernel⟩), ⟨by decide +kernel, by decide +kernel, by decide +kernel⟩, by decide⟩
theorem cy_G_bit (G : xk_D) : xk_CY (xc G) y_G_bit 1 := ⟨(List.mem_filter.mpr ⟨List.mem_append_right _ (List.mem_of_getElem? (i := 184) (by decide +kernel)), by decide +kernel⟩), (List.mem_filter.mpr ⟨List.mem_append_right _ (List.mem_of_getElem? (i := 2) (by decide +kernel)), by decide +kernel⟩), ⟨by decide +kernel, by decide +kernel, by decide +kernel⟩, by decide⟩
theorem cy_G_build (G : xk_D) : xk_CY (xc G) y_G_build 2 := ⟨(List.mem_filter.mpr ⟨List.mem_append_right _ (List.mem_of_getElem? (i := 188) (by decide +kernel)), by decide +kernel⟩), (List.mem_filter.mpr ⟨List.mem_append_right _ (List.mem_of_getElem? (i := 2) (by decide +kernel)), by decide +kernel⟩), ⟨by decide +kernel, by decide +kernel, by decide +kernel⟩, by decide⟩
theorem cy_F_unit (G : xk_D) : xk_CY (xc G) y_F_unit 2 := ⟨(List.mem_filter.mpr ⟨List.mem_append_right _ (List.mem_of_getElem? (i := 194) (by decide +kernel)), by decide +kernel⟩), (List.mem_filter.mpr ⟨List.mem_append_right _ (List.mem_of_getElem? (i := 1) (by decide +kernel)), by decide +kernel⟩), ⟨by decide +kernel, by decide +kernel, by decide +kernel⟩, by decide⟩
theorem cy_G_isWall (G : xk_D) : xk_CY (xc G) y_G_isWall 1 := ⟨(List.mem_filter.mpr ⟨List.mem_append_right _ (List.mem_of_getElem? (i := 198) (by decide +kernel)), by decide +kernel⟩), (List.mem_filter.mpr ⟨List.mem_append_right _ (List.mem_of_getElem? (i := 2) (by decide +kernel)), by decide +kernel⟩), ⟨by decide +kernel, by decide +kernel, by decide +kernel⟩, by decide⟩
theorem cy_P_place (G : xk_D) : xk_CY (xc G) y_P_place 2 := ⟨(List.mem_filter.mpr ⟨List.mem_append_right _ (List.mem_of_getElem? (i := 202) (by decide +kernel)), by decide +kernel⟩), (List.mem_filter.mpr ⟨List.mem_append_right _ (List.mem_of_getElem? (i := 4) (by decide +kernel)), by decide +kernel⟩), ⟨by decide +kernel, by decide +kernel, by decide +kernel⟩, by decide⟩
theorem cy_U_settle (G : xk_D) : xk_CY (xc G) y_U_settle 2 := ⟨(List.mem_filter.mpr ⟨List.mem_append_right _ (List.mem_of_getElem? (i := 206) (by decide +kernel)), by decide +kernel⟩), (List.mem_filter.mpr ⟨List.mem_append_right _ (List.mem_of_getElem? (i := 5) (by decide +kernel)), by decide +kernel⟩), ⟨by decide +kernel, by decide +kernel, by decide +kernel⟩, by decide⟩
theorem cy_U_restart (G : xk_D) : xk_CY (xc G) y_U_restart 0 := ⟨(List.mem_filter.mpr ⟨List.mem_append_right _ (List.mem_of_getElem? (i := 210) (by decide +kernel)), by decide +kernel⟩), (List.mem_filter.mpr ⟨List.mem_append_right _ (List.mem_of_getElem? (i := 5) (by decide +kernel)), by decide +kernel⟩), ⟨by decide +kernel, by decide +kernel, by decide +kernel⟩, by decide⟩
theorem cy_U_obey (G : xk_D) : xk_CY (xc G) y_U_obey 2 := ⟨(List.mem_filter.mpr ⟨List.mem_append_right _ (List.mem_of_getElem? (i := 214) (by decide +kernel)), by decide +kernel⟩), (List.mem_filter.mpr ⟨List.mem_append_right _ (List.mem_of_getElem? (i := 5) (by decide +kernel)), by decide +kernel⟩), ⟨by decide +kernel, by decide +kernel, by decide +kernel⟩, by decide⟩
theorem cy_U_clearPath (G : xk_D) : xk_CY (xc G) y_U_clearPath 0 := ⟨(List.mem_filter.mpr ⟨List.mem_append_right _ (List.mem_of_getElem? (i := 218) (by decide +kernel)), by decide +kernel⟩), (List.mem_filter.mpr ⟨List.mem_append_right _ (List.mem_of_getElem? (i := 5) (by decide +kernel)), by decide +kernel⟩), ⟨by decide +kernel, by decide +kernel, by decide +kernel⟩, by decide⟩
theorem cy_F_begin (G : xk_D) : xk_CY (xc G) y_F_begin 0 := ⟨(List.mem_filter.mpr ⟨List.mem_append_right _ (List.mem_of_getElem? (i := 222) (by decide +kernel)), by decide +kernel⟩), (List.mem_filter.mpr ⟨List.mem_append_right _ (List.mem_of_getElem? (i := 1) (by decide +kernel)), by decide +kernel⟩), ⟨by decide +kernel, by decide +kernel, by decide +kernel⟩, by decide⟩
theorem cy_F_command (G : xk_D) : xk_CY (xc G) y_F_command 4 := ⟨(List.mem_filter.mpr ⟨List.mem_append_right _ (List.mem_of_getElem? (i := 226) (by decide +kernel)), by decide +kernel⟩), (List.mem_filter.mpr ⟨List.mem_append_right _ (List.mem_of_getElem? (i := 1) (by decide +kernel)), by decide +kernel⟩), ⟨by decide +kernel, by decide +kernel, by decide +kernel⟩, by decide⟩
theorem cy_P_has (G : xk_D) : xk_CY (xc G) y_P_has 1 := ⟨(List.mem_filter.mpr ⟨List.mem_append_right _ (List.mem_of_getElem? (i := 230) (by decide +kernel)), by decide +kernel⟩), (List.mem_filter.mpr ⟨List.mem_append_right _ (List.mem_of_getElem? (i := 4) (by decide +kernel)), by decide +kernel⟩), ⟨by decide +kernel, by decide +kernel, by decide +kernel⟩, by decide⟩
theorem cy_F_isKindWithNumber (G : xk_D) : xk_CY (xc G) y_F_isKindWithNumber 3 := ⟨(List.mem_filter.mpr ⟨List.mem_append_right _ (List.mem_of_getElem? (i := 234) (by decide +kernel)), by decide +kernel⟩), (List.mem_filter.mpr ⟨List.mem_append_right _ (List.mem_of_getElem? (i := 1) (by decide +kernel)), by decide +kernel⟩), ⟨by decide +kernel, by decide +kernel, by decide +kernel⟩, by decide⟩
theorem cy_L_add (G : xk_D) : xk_CY (xc G) y_L_add 4 := ⟨(List.mem_filter.mpr ⟨List.mem_append_right _ (List.mem_of_getElem? (i := 238) (by decide +kernel)), by decide +kernel⟩), (List.mem_filter.mpr ⟨List.mem_append_right _ (List.mem_of_getElem? (i := 3) (by decide +kernel)), by decide +kernel⟩), ⟨by decide +kernel, by decide +kernel, by decide +kernel⟩, by decide⟩
theorem cy_F_forget (G : xk_D) : xk_CY (xc G) y_F_forget 1 := ⟨(List.mem_filter.mpr ⟨List.mem_append_right _ (List.mem_of_getElem? (i := 242) (by decide +kernel)), by decide +kernel⟩), (List.mem_filter.mpr ⟨List.mem_append_right _ (List.mem_of_getElem? (i := 1) (by decide +kernel)), by decide +kernel⟩), ⟨by decide +kernel, by decide +kernel, by decide +kernel⟩, by decide⟩
theorem cy_L_remove (G : xk_D) : xk_CY (xc G) y_L_remove 1 := ⟨(List.mem_filter.mpr ⟨List.mem_append_right _ (List.mem_of_getElem? (i := 246) (by decide +kernel)), by decide +kernel⟩), (List.mem_filter.mpr ⟨List.mem_append_right _ (List.mem_of_getElem? (i := 3) (by decide +kernel)), by decide +kernel⟩), ⟨by decide +kernel, by decide +kernel, by decide +kernel⟩, by decide⟩
theorem cy_L_closeGap (G : xk_D) : xk_CY (xc G) y_L_closeGap 2 := ⟨(List.mem_filter.mpr ⟨List.mem_append_right _ (List.mem_of_getElem? (i := 250) (by decide +kernel)), by decide +kernel⟩), (List.mem_filter.mpr ⟨List.mem_append_right _ (List.mem_of_getElem? (i := 3) (by decide +kernel)), by decide +kernel⟩), ⟨by decide +kernel, by decide +kernel, by decide +kernel⟩, by decide⟩
theorem cy_F_run (G : xk_D) : xk_CY (xc G) y_F_run 1 := ⟨(List.mem_filter.mpr ⟨List.mem_append_right _ (List.mem_of_getElem? (i := 257) (by decide +kernel)), by decide +kernel⟩), (List.mem_filter.mpr ⟨List.mem_append_right _ (List.mem_of_getElem? (i := 1) (by decide +kernel)), by decide +kernel⟩), ⟨by decide +kernel, by decide +kernel, by decide +kernel⟩, by decide⟩
theorem cy_P_playTick (G : xk_D) : xk_CY (xc G) y_P_playTick 2 := ⟨(List.mem_filter.mpr ⟨List.mem_append_right _ (List.mem_of_getElem? (i := 261) (by decide +kernel)), by decide +kernel⟩), (List.mem_filter.mpr ⟨List.mem_append_right _ (List.mem_of_getElem? (i := 4) (by decide +kernel)), by decide +kernel⟩), ⟨by decide +kernel, by decide +kernel, by decide +kernel⟩, by decide⟩
theorem cy_P_giveOrders (G : xk_D) : xk_CY (xc G) y_P_giveOrders 2 := ⟨(List.mem_filter.mpr ⟨List.mem_append_right _ (List.mem_of_getElem? (i := 265) (by decide +kernel)), by decide +kernel⟩), (List.mem_filter.mpr ⟨List.mem_append_right _ (List.mem_of_getElem? (i := 4) (by decide +kernel)), by decide +kernel⟩), ⟨by decide +kernel, by decide +kernel, by decide +kernel⟩, by decide⟩
theorem cy_P_follow (G : xk_D) : xk_CY (xc G) y_P_follow 1 := ⟨(List.mem_filter.mpr ⟨List.mem_append_right _ (List.mem_of_getElem? (i := 270) (by decide +kernel)), by decide +kernel⟩), (List.mem_filter.mpr ⟨List.mem_append_right _ (List.mem_of_getElem? (i := 4) (by decide +kernel)), by decide +kernel⟩), ⟨by decide +kernel, by decide +kernel, by decide +kernel⟩, by decide⟩
theorem cy_P_goalOf (G : xk_D) : xk_CY (xc G) y_P_goalOf 1 := ⟨(List.mem_filter.mpr ⟨List.mem_append_right _ (List.mem_of_getElem? (i := 274) (by decide +kernel)), by decide +kernel⟩), (List.mem_filter.mpr ⟨List.mem_append_right _ (List.mem_of_getElem? (i := 4) (by decide +kernel)), by decide +kernel⟩), ⟨by decide +kernel, by decide +kernel, by decide +kernel⟩, by decide⟩
theorem cy_U_dropOrder (G : xk_D) : xk_CY (xc G) y_U_dropOrder 0 := ⟨(List.mem_filter.mpr ⟨List.mem_append_right _ (List.mem_of_getElem? (i := 279) (by decide +kernel)), by decide +kernel⟩), (List.mem_filter.mpr ⟨List.mem_append_right _ (List.mem_of_getElem? (i := 5) (by decide +kernel)), by decide +kernel⟩), ⟨by decide +kernel, by decide +kernel, by decide +kernel⟩, by decide⟩
theorem cy_G_distance (G : xk_D) : xk_CY (xc G) y_G_distance 2 := ⟨(List.mem_filter.mpr ⟨List.mem_append_right _ (List.mem_of_getElem? (i := 282) (by decide +kernel)), by decide +kernel⟩), (List.mem_filter.mpr ⟨List.mem_append_right _ (List.mem_of_getElem? (i := 2) (by decide +kernel)), by decide +kernel⟩), ⟨by decide +kernel, by decide +kernel, by decide +kernel⟩, by decide⟩
theorem cy_P_walk (G : xk_D) : xk_CY (xc G) y_P_walk 2 := ⟨(List.mem_filter.mpr ⟨List.mem_append_right _ (List.mem_of_getElem? (i := 290) (by decide +kernel)), by decide +kernel⟩), (List.mem_filter.mpr ⟨List.mem_append_right _ (List.mem_of_getElem? (i := 4) (by decide +kernel)), by decide +kernel⟩), ⟨by decide +kernel, by decide +kernel, by decide +kernel⟩, by decide⟩
theorem cy_U_isPathTo (G : xk_D) : xk_CY (xc G) y_U_isPathTo 1 := ⟨(List.mem_filter.mpr ⟨List.mem_append_right _ (List.mem_of_getElem? (i := 294) (by decide +kernel)), by decide +kernel⟩), (List.mem_filter.mpr ⟨List.mem_append_right _ (List.mem_of_getElem? (i := 5) (by decide +kernel)), by decide +kernel⟩), ⟨by decide +kernel, by decide +kernel, by decide +kernel⟩, by decide⟩
theorem cy_U_pathLength (G : xk_D) : xk_CY (xc G) y_U_pathLength 0 := ⟨(List.mem_filter.mpr ⟨List.mem_append_right _ (List.mem_of_getElem? (i := 298) (by decide +kernel)), by decide +kernel⟩), (List.mem_filter.mpr ⟨List.mem_append_right _ (List.mem_of_getElem? (i := 5) (by decide +kernel)), by decide +kernel⟩), ⟨by decide +kernel, by decide +kernel, by decide +kernel⟩, by decide⟩
theorem cy_P_findPath (G : xk_D) : xk_CY (xc G) y_P_findPath 3 := ⟨(List.mem_filter.mpr ⟨List.mem_append_right _ (List.mem_of_getElem? (i := 302) (by decide +kernel)), by decide +kernel⟩), (List.mem_filter.mpr ⟨List.mem_append_right _ (List.mem_of_getElem? (i := 4) (by decide +kernel)), by decide +kernel⟩), ⟨by decide +kernel, by decide +kernel, by decide +kernel⟩, by decide⟩
theorem cy_G_search (G : xk_D) : xk_CY (xc G) y_G_search 3 := ⟨(List.mem_filter.mpr ⟨List.mem_append_right _ (List.mem_of_getElem? (i := 306) (by decide +kernel)), by decide +kernel⟩), (List.mem_filter.mpr ⟨List.mem_append_right _ (List.mem_of_getElem? (i := 2) (by decide +kernel)), by decide +kernel⟩), ⟨by decide +kernel, by decide +kernel, by decide +kernel⟩, by decide⟩
theorem cy_A_fill (G : xk_D) : xk_CY (xc G) y_A_fill 2 := ⟨(List.mem_filter.mpr ⟨List.mem_append_right _ (List.mem_of_getElem? (i := 309) (by decide +kernel)), by decide +kernel⟩), (List.mem_filter.mpr ⟨List.mem_append_right _ (List.mem_of_getElem? (i := 9) (by decide +kernel)), by decide +kernel⟩), ⟨by decide +kernel, by decide +kernel, by decide +kernel⟩, by decide⟩
theorem cy_G_beside (G : xk_D) : xk_CY (xc G) y_G_beside 2 := ⟨(List.mem_filter.mpr ⟨List.mem_append_right _ (List.mem_of_getElem? (i := 312) (by decide +kernel)), by decide +kernel⟩), (List.mem_filter.mpr ⟨List.mem_append_right _ (List.mem_of_getElem? (i := 2) (by decide +kernel)), by decide +kernel⟩), ⟨by decide +kernel, by decide +kernel, by decide +kernel⟩, by decide⟩
theorem cy_G_layPath (G : xk_D) : xk_CY (xc G) y_G_layPath 2 := ⟨(List.mem_filter.mpr ⟨List.mem_append_right _ (List.mem_of_getElem? (i := 316) (by decide +kernel)), by decide +kernel⟩), (List.mem_filter.mpr ⟨List.mem_append_right _ (List.mem_of_getElem? (i := 2) (by decide +kernel)), by decide +kernel⟩), ⟨by decide +kernel, by decide +kernel, by decide +kernel⟩, by decide⟩
theorem cy_U_pathTile (G : xk_D) : xk_CY (xc G) y_U_pathTile 1 := ⟨(List.mem_filter.mpr ⟨List.mem_append_right _ (List.mem_of_getElem? (i := 321) (by decide +kernel)), by decide +kernel⟩), (List.mem_filter.mpr ⟨List.mem_append_right _ (List.mem_of_getElem? (i := 5) (by decide +kernel)), by decide +kernel⟩), ⟨by decide +kernel, by decide +kernel, by decide +kernel⟩, by decide⟩
theorem cy_U_step (G : xk_D) : xk_CY (xc G) y_U_step 0 := ⟨(List.mem_filter.mpr ⟨List.mem_append_right _ (List.mem_of_getElem? (i := 326) (by decide +kernel)), by decide +kernel⟩), (List.mem_filter.mpr ⟨List.mem_append_right _ (List.mem_of_getElem? (i := 5) (by decide +kernel)), by decide +kernel⟩), ⟨by decide +kernel, by decide +kernel, by decide +kernel⟩, by decide⟩
theorem cy_U_runsOutOfPatience (G : xk_D) : xk_CY (xc G) y_U_runsOutOfPatience 0 := ⟨(List.mem_filter.mpr ⟨List.mem_append_right _ (List.mem_of_getElem? (i := 331) (by decide +kernel)), by decide +kernel⟩), (List.mem_filter.mpr ⟨List.mem_append_right _ (List.mem_of_getElem? (i := 5) (by decide +kernel)), by decide +kernel⟩), ⟨by decide +kernel, by decide +kernel, by decide +kernel⟩, by decide⟩
theorem cy_P_exchangeBlows (G : xk_D) : xk_CY (xc G) y_P_exchangeBlows 0 := ⟨(List.mem_filter.mpr ⟨List.mem_append_right _ (List.mem_of_getElem? (i := 335) (by decide +kernel)), by decide +kernel⟩), (List.mem_filter.mpr ⟨List.mem_append_right _ (List.mem_of_getElem? (i := 4) (by decide +kernel)), by decide +kernel⟩), ⟨by decide +kernel, by decide +kernel, by decide +kernel⟩, by decide⟩
theorem cy_P_reaches (G : xk_D) : xk_CY (xc G) y_P_reaches 2 := ⟨(List.mem_filter.mpr ⟨List.mem_append_right _ (List.mem_of_getElem? (i := 339) (by decide +kernel)), by decide +kernel⟩), (List.mem_filter.mpr ⟨List.mem_append_right _ (List.mem_of_getElem? (i := 4) (by decide +kernel)), by decide +kernel⟩), ⟨by decide +kernel, by decide +kernel, by decide +kernel⟩, by decide⟩
theorem cy_U_suffer (G : xk_D) : xk_CY (xc G) y_U_suffer 1 := ⟨(List.mem_filter.mpr ⟨List.mem_append_right _ (List.mem_of_getElem? (i := 343) (by decide +kernel)), by decide +kernel⟩), (List.mem_filter.mpr ⟨List.mem_append_right _ (List.mem_of_getElem? (i := 5) (by decide +kernel)), by decide +kernel⟩), ⟨by decide +kernel, by decide +kernel, by decide +kernel⟩, by decide⟩
theorem cy_P_restAll (G : xk_D) : xk_CY (xc G) y_P_restAll 0 := ⟨(List.mem_filter.mpr ⟨List.mem_append_right _ (List.mem_of_getElem? (i := 351) (by decide +kernel)), by decide +kernel⟩), (List.mem_filter.mpr ⟨List.mem_append_right _ (List.mem_of_getElem? (i := 4) (by decide +kernel)), by decide +kernel⟩), ⟨by decide +kernel, by decide +kernel, by decide +kernel⟩, by decide⟩
theorem cy_U_rest (G : xk_D) : xk_CY (xc G) y_U_rest 0 := ⟨(List.mem_filter.mpr ⟨List.mem_append_right _ (List.mem_of_getElem? (i := 355) (by decide +kernel)), by decide +kernel⟩), (List.mem_filter.mpr ⟨List.mem_append_right _ (List.mem_of_getElem? (i := 5) (by decide +kernel)), by decide +kernel⟩), ⟨by decide +kernel, by decide +kernel, by decide +kernel⟩, by decide⟩
theorem cy_P_sum (G : xk_D) : xk_CY (xc G) y_P_sum 0 := ⟨(List.mem_filter.mpr ⟨List.mem_append_right _ (List.mem_of_getElem? (i := 359) (by decide +kernel)), by decide +kernel⟩), (List.mem_filter.mpr ⟨List.mem_append_right _ (List.mem_of_getElem? (i := 4) (by decide +kernel)), by decide +kernel⟩), ⟨by decide +kernel, by decide +kernel, by decide +kernel⟩, by decide⟩
theorem cy_F_replay (G : xk_D) : xk_CY (xc G) y_F_replay 0 := ⟨(List.mem_filter.mpr ⟨List.mem_append_right _ (List.mem_of_getElem? (i := 363) (by decide +kernel)), by decide +kernel⟩), (List.mem_filter.mpr ⟨List.mem_append_right _ (List.mem_of_getElem? (i := 1) (by decide +kernel)), by decide +kernel⟩), ⟨by decide +kernel, by decide +kernel, by decide +kernel⟩, by decide⟩
theorem cy_P_restart (G : xk_D) : xk_CY (xc G) y_P_restart 0 := ⟨(List.mem_filter.mpr ⟨List.mem_append_right _ (List.mem_of_getElem? (i := 367) (by decide +kernel)), by decide +kernel⟩), (List.mem_filter.mpr ⟨List.mem_append_right _ (List.mem_of_getElem? (i := 4) (by decide +kernel)), by decide +kernel⟩), ⟨by decide +kernel, by decide +kernel, by decide +kernel⟩, by decide⟩
theorem cy_F_number (G : xk_D) : xk_CY (xc G) y_F_number 1 := ⟨(List.mem_filter.mpr ⟨List.mem_append_right _ (List.mem_of_getElem? (i := 372) (by decide +kernel)), by decide +kernel⟩), (List.mem_filter.mpr ⟨List.mem_append_right _ (List.mem_of_getElem? (i := 1) (by decide +kernel)), by decide +kernel⟩), ⟨by decide +kernel, by decide +kernel, by decide +kernel⟩, by decide⟩
theorem cy_F_tile (G : xk_D) : xk_CY (xc G) y_F_tile 1 := ⟨(List.mem_filter.mpr ⟨List.mem_append_right _ (List.mem_of_getElem? (i := 376) (by decide +kernel)), by decide +kernel⟩), (List.mem_filter.mpr ⟨List.mem_append_right _ (List.mem_of_getElem? (i := 1) (by decide +kernel)), by decide +kernel⟩), ⟨by decide +kernel, by decide +kernel, by decide +kernel⟩, by decide⟩
theorem cy_F_points (G : xk_D) : xk_CY (xc G) y_F_points 1 := ⟨(List.mem_filter.mpr ⟨List.mem_append_right _ (List.mem_of_getElem? (i := 381) (by decide +kernel)), by decide +kernel⟩), (List.mem_filter.mpr ⟨List.mem_append_right _ (List.mem_of_getElem? (i := 1) (by decide +kernel)), by decide +kernel⟩), ⟨by decide +kernel, by decide +kernel, by decide +kernel⟩, by decide⟩
theorem cy_F_order (G : xk_D) : xk_CY (xc G) y_F_order 1 := ⟨(List.mem_filter.mpr ⟨List.mem_append_right _ (List.mem_of_getElem? (i := 385) (by decide +kernel)), by decide +kernel⟩), (List.mem_filter.mpr ⟨List.mem_append_right _ (List.mem_of_getElem? (i := 1) (by decide +kernel)), by decide +kernel⟩), ⟨by decide +kernel, by decide +kernel, by decide +kernel⟩, by decide⟩
theorem cy_F_path (G : xk_D) : xk_CY (xc G) y_F_path 2 := ⟨(List.mem_filter.mpr ⟨List.mem_append_right _ (List.mem_of_getElem? (i := 389) (by decide +kernel)), by decide +kernel⟩), (List.mem_filter.mpr ⟨List.mem_append_right _ (List.mem_of_getElem? (i := 1) (by decide +kernel)), by decide +kernel⟩), ⟨by decide +kernel, by decide +kernel, by decide +kernel⟩, by decide⟩
theorem cy_F_entries (G : xk_D) : xk_CY (xc G) y_F_entries 0 := ⟨(List.mem_filter.mpr ⟨List.mem_append_right _ (List.mem_of_getElem? (i := 395) (by decide +kernel)), by decide +kernel⟩), (List.mem_filter.mpr ⟨List.mem_append_right _ (List.mem_of_getElem? (i := 1) (by decide +kernel)), by decide +kernel⟩), ⟨by decide +kernel, by decide +kernel, by decide +kernel⟩, by decide⟩
theorem cy_F_steps (G : xk_D) : xk_CY (xc G) y_F_steps 2 := ⟨(List.mem_filter.mpr ⟨List.mem_append_right _ (List.mem_of_getElem? (i := 399) (by decide +kernel)), by decide +kernel⟩), (List.mem_filter.mpr ⟨List.mem_append_right _ (List.mem_of_getElem? (i := 1) (by decide +kernel)), by decide +kernel⟩), ⟨by decide +kernel, by decide +kernel, by decide +kernel⟩, by decide⟩
theorem cy_F_winner (G : xk_D) : xk_CY (xc G) y_F_winner 0 := ⟨(List.mem_filter.mpr ⟨List.mem_append_right _ (List.mem_of_getElem? (i := 404) (by decide +kernel)), by decide +kernel⟩), (List.mem_filter.mpr ⟨List.mem_append_right _ (List.mem_of_getElem? (i := 1) (by decide +kernel)), by decide +kernel⟩), ⟨by decide +kernel, by decide +kernel, by decide +kernel⟩, by decide⟩
theorem cy_P_hasLiving (G : xk_D) : xk_CY (xc G) y_P_hasLiving 1 := ⟨(List.mem_filter.mpr ⟨List.mem_append_right _ (List.mem_of_getElem? (i := 408) (by decide +kernel)), by decide +kernel⟩), (List.mem_filter.mpr ⟨List.mem_append_right _ (List.mem_of_getElem? (i := 4) (by decide +kernel)), by decide +kernel⟩), ⟨by decide +kernel, by decide +kernel, by decide +kernel⟩, by decide⟩
theorem cy_M_wall (G : xk_D) : xk_CY (xm G) y_M_wall 2 := ⟨(List.mem_filter.mpr ⟨List.mem_append_right _ (List.mem_of_getElem? (i := 510) (by decide +kernel)), by decide +kernel⟩), (List.mem_filter.mpr ⟨List.mem_append_right _ (List.mem_of_getElem? (i := 6) (by decide +kernel)), by decide +kernel⟩), ⟨by decide +kernel, by decide +kernel, by decide +kernel⟩, by decide⟩
theorem cy_M_isTile (G : xk_D) : xk_CY (xm G) y_M_isTile 1 := ⟨(List.mem_filter.mpr ⟨List.mem_append_right _ (List.mem_of_getElem? (i := 513) (by decide +kernel)), by decide +kernel⟩), (List.mem_filter.mpr ⟨List.mem_append_right _ (List.mem_of_getElem? (i := 6) (by decide +kernel)), by decide +kernel⟩), ⟨by decide +kernel, by decide +kernel, by decide +kernel⟩, by decide⟩
theorem cy_M_isTaken (G : xk_D) : xk_CY (xm G) y_M_isTaken 1 := ⟨(List.mem_filter.mpr ⟨List.mem_append_right _ (List.mem_of_getElem? (i := 517) (by decide +kernel)), by decide +kernel⟩), (List.mem_filter.mpr ⟨List.mem_append_right _ (List.mem_of_getElem? (i := 6) (by decide +kernel)), by decide +kernel⟩), ⟨by decide +kernel, by decide +kernel, by decide +kernel⟩, by decide⟩
theorem cy_M_unit (G : xk_D) : xk_CY (xm G) y_M_unit 2 := ⟨(List.mem_filter.mpr ⟨List.mem_append_right _ (List.mem_of_getElem? (i := 521) (by decide +kernel)), by decide +kernel⟩), (List.mem_filter.mpr ⟨List.mem_append_right _ (List.mem_of_getElem? (i := 6) (by decide +kernel)), by decide +kernel⟩), ⟨by decide +kernel, by decide +kernel, by decide +kernel⟩, by decide⟩
theorem cy_M_begin (G : xk_D) : xk_CY (xm G) y_M_begin 0 := ⟨(List.mem_filter.mpr ⟨List.mem_append_right _ (List.mem_of_getElem? (i := 525) (by decide +kernel)), by decide +kernel⟩), (List.mem_filter.mpr ⟨List.mem_append_right _ (List.mem_of_getElem? (i := 6) (by decide +kernel)), by decide +kernel⟩), ⟨by decide +kernel, by decide +kernel, by decide +kernel⟩, by decide⟩
theorem cy_M_command (G : xk_D) : xk_CY (xm G) y_M_command 4 := ⟨(List.mem_filter.mpr ⟨List.mem_append_right _ (List.mem_of_getElem? (i := 529) (by decide +kernel)), by decide +kernel⟩), (List.mem_filter.mpr ⟨List.mem_append_right _ (List.mem_of_getElem? (i := 6) (by decide +kernel)), by decide +kernel⟩), ⟨by decide +kernel, by decide +kernel, by decide +kernel⟩, by decide⟩
theorem cy_M_isUnit (G : xk_D) : xk_CY (xm G) y_M_isUnit 1 := ⟨(List.mem_filter.mpr ⟨List.mem_append_right _ (List.mem_of_getElem? (i := 533) (by decide +kernel)), by decide +kernel⟩), (List.mem_filter.mpr ⟨List.mem_append_right _ (List.mem_of_getElem? (i := 6) (by decide +kernel)), by decide +kernel⟩), ⟨by decide +kernel, by decide +kernel, by decide +kernel⟩, by decide⟩
theorem cy_M_forget (G : xk_D) : xk_CY (xm G) y_M_forget 1 := ⟨(List.mem_filter.mpr ⟨List.mem_append_right _ (List.mem_of_getElem? (i := 537) (by decide +kernel)), by decide +kernel⟩), (List.mem_filter.mpr ⟨List.mem_append_right _ (List.mem_of_getElem? (i := 6) (by decide +kernel)), by decide +kernel⟩), ⟨by decide +kernel, by decide +kernel, by decide +kernel⟩, by decide⟩
theorem cy_M_steps (G : xk_D) : xk_CY (xm G) y_M_steps 2 := ⟨(List.mem_filter.mpr ⟨List.mem_append_right _ (List.mem_of_getElem? (i := 541) (by decide +kernel)), by decide +kernel⟩), (List.mem_filter.mpr ⟨List.mem_append_right _ (List.mem_of_getElem? (i := 6) (by decide +kernel)), by decide +kernel⟩), ⟨by decide +kernel, by decide +kernel, by decide +kernel⟩, by decide⟩
theorem cy_M_find (G : xk_D) : xk_CY (xm G) y_M_find 3 := ⟨(List.mem_filter.mpr ⟨List.mem_append_right _ (List.mem_of_getElem? (i := 545) (by decide +kernel)), by decide +kernel⟩), (List.mem_filter.mpr ⟨List.mem_append_right _ (List.mem_of_getElem? (i := 6) (by decide +kernel)), by decide +kernel⟩), ⟨by decide +kernel, by decide +kernel, by decide +kernel⟩, by decide⟩
theorem cy_M_beside (G : xk_D) : xk_CY (xm G) y_M_beside 2 := ⟨(List.mem_filter.mpr ⟨List.mem_append_right _ (List.mem_of_getElem? (i := 548) (by decide +kernel)), by decide +kernel⟩), (List.mem_filter.mpr ⟨List.mem_append_right _ (List.mem_of_getElem? (i := 6) (by decide +kernel)), by decide +kernel⟩), ⟨by decide +kernel, by decide +kernel, by decide +kernel⟩, by decide⟩
theorem cy_M_run (G : xk_D) : xk_CY (xm G) y_M_run 1 := ⟨(List.mem_filter.mpr ⟨List.mem_append_right _ (List.mem_of_getElem? (i := 552) (by decide +kernel)), by decide +kernel⟩), (List.mem_filter.mpr ⟨List.mem_append_right _ (List.mem_of_getElem? (i := 6) (by decide +kernel)), by decide +kernel⟩), ⟨by decide +kernel, by decide +kernel, by decide +kernel⟩, by decide⟩
theorem cy_M_play (G : xk_D) : xk_CY (xm G) y_M_play 1 := ⟨(List.mem_filter.mpr ⟨List.mem_append_right _ (List.mem_of_getElem? (i := 556) (by decide +kernel)), by decide +kernel⟩), (List.mem_filter.mpr ⟨List.mem_append_right _ (List.mem_of_getElem? (i := 6) (by decide +kernel)), by decide +kernel⟩), ⟨by decide +kernel, by decide +kernel, by decide +kernel⟩, by decide⟩
theorem cy_M_obey (G : xk_D) : xk_CY (xm G) y_M_obey 1 := ⟨(List.mem_filter.mpr ⟨List.mem_append_right _ (List.mem_of_getElem? (i := 560) (by decide +kernel)), by decide +kernel⟩), (List.mem_filter.mpr ⟨List.mem_append_right _ (List.mem_of_getElem? (i := 6) (by decide +kernel)), by decide +kernel⟩), ⟨by decide +kernel, by decide +kernel, by decide +kernel⟩, by decide⟩
theorem cy_M_move (G : xk_D) : xk_CY (xm G) y_M_move 1 := ⟨(List.mem_filter.mpr ⟨List.mem_append_right _ (List.mem_of_getElem? (i := 564) (by decide +kernel)), by decide +kernel⟩), (List.mem_filter.mpr ⟨List.mem_append_right _ (List.mem_of_getElem? (i := 6) (by decide +kernel)), by decide +kernel⟩), ⟨by decide +kernel, by decide +kernel, by decide +kernel⟩, by decide⟩
theorem cy_M_stop (G : xk_D) : xk_CY (xm G) y_M_stop 1 := ⟨(List.mem_filter.mpr ⟨List.mem_append_right _ (List.mem_of_getElem? (i := 568) (by decide +kernel)), by decide +kernel⟩), (List.mem_filter.mpr ⟨List.mem_append_right _ (List.mem_of_getElem? (i := 6) (by decide +kernel)), by decide +kernel⟩), ⟨by decide +kernel, by decide +kernel, by decide +kernel⟩, by decide⟩
theorem cy_M_distance (G : xk_D) : xk_CY (xm G) y_M_distance 2 := ⟨(List.mem_filter.mpr ⟨List.mem_append_right _ (List.mem_of_getElem? (i := 571) (by decide +kernel)), by decide +kernel⟩), (List.mem_filter.mpr ⟨List.mem_append_right _ (List.mem_of_getElem? (i := 6) (by decide +kernel)), by decide +kernel⟩), ⟨by decide +kernel, by decide +kernel, by decide +kernel⟩, by decide⟩
theorem cy_M_take (G : xk_D) : xk_CY (xm G) y_M_take 2 := ⟨(List.mem_filter.mpr ⟨List.mem_append_right _ (List.mem_of_getElem? (i := 575) (by decide +kernel)), by decide +kernel⟩), (List.mem_filter.mpr ⟨List.mem_append_right _ (List.mem_of_getElem? (i := 6) (by decide +kernel)), by decide +kernel⟩), ⟨by decide +kernel, by decide +kernel, by decide +kernel⟩, by decide⟩
theorem cy_M_step (G : xk_D) : xk_CY (xm G) y_M_step 3 := ⟨(List.mem_filter.mpr ⟨List.mem_append_right _ (List.mem_of_getElem? (i := 579) (by decide +kernel)), by decide +kernel⟩), (List.mem_filter.mpr ⟨List.mem_append_right _ (List.mem_of_getElem? (i := 6) (by decide +kernel)), by decide +kernel⟩), ⟨by decide +kernel, by decide +kernel, by decide +kernel⟩, by decide⟩
theorem cy_M_fight (G : xk_D) : xk_CY (xm G) y_M_fight 0 := ⟨(List.mem_filter.mpr ⟨List.mem_append_right _ (List.mem_of_getElem? (i := 583) (by decide +kernel)), by decide +kernel⟩), (List.mem_filter.mpr ⟨List.mem_append_right _ (List.mem_of_getElem? (i := 6) (by decide +kernel)), by decide +kernel⟩), ⟨by decide +kernel, by decide +kernel, by decide +kernel⟩, by decide⟩
theorem cy_M_replay (G : xk_D) : xk_CY (xm G) y_M_replay 0 := ⟨(List.mem_filter.mpr ⟨List.mem_append_right _ (List.mem_of_getElem? (i := 587) (by decide +kernel)), by decide +kernel⟩), (List.mem_filter.mpr ⟨List.mem_append_right _ (List.mem_of_getElem? (i := 6) (by decide +kernel)), by decide +kernel⟩), ⟨by decide +kernel, by decide +kernel, by decide +kernel⟩, by decide⟩
theorem cy_M_layAside (G : xk_D) : xk_CY (xm G) y_M_layAside 0 := ⟨(List.mem_filter.mpr ⟨List.mem_append_right _ (List.mem_of_getElem? (i := 591) (by decide +kernel)), by decide +kernel⟩), (List.mem_filter.mpr ⟨List.mem_append_right _ (List.mem_of_getElem? (i := 6) (by decide +kernel)), by decide +kernel⟩), ⟨by decide +kernel, by decide +kernel, by decide +kernel⟩, by decide⟩
theorem cy_M_putBack (G : xk_D) : xk_CY (xm G) y_M_putBack 0 := ⟨(List.mem_filter.mpr ⟨List.mem_append_right _ (List.mem_of_getElem? (i := 595) (by decide +kernel)), by decide +kernel⟩), (List.mem_filter.mpr ⟨List.mem_append_right _ (List.mem_of_getElem? (i := 6) (by decide +kernel)), by decide +kernel⟩), ⟨by decide +kernel, by decide +kernel, by decide +kernel⟩, by decide⟩
theorem cy_M_number (G : xk_D) : xk_CY (xm G) y_M_number 1 := ⟨(List.mem_filter.mpr ⟨List.mem_append_right _ (List.mem_of_getElem? (i := 599) (by decide +kernel)), by decide +kernel⟩), (List.mem_filter.mpr ⟨List.mem_append_right _ (List.mem_of_getElem? (i := 6) (by decide +kernel)), by decide +kernel⟩), ⟨by decide +kernel, by decide +kernel, by decide +kernel⟩, by decide⟩
theorem cy_M_tile (G : xk_D) : xk_CY (xm G) y_M_tile 1 := ⟨(List.mem_filter.mpr ⟨List.mem_append_right _ (List.mem_of_getElem? (i := 603) (by decide +kernel)), by decide +kernel⟩), (List.mem_filter.mpr ⟨List.mem_append_right _ (List.mem_of_getElem? (i := 6) (by decide +kernel)), by decide +kernel⟩), ⟨by decide +kernel, by decide +kernel, by decide +kernel⟩, by decide⟩
theorem cy_M_points (G : xk_D) : xk_CY (xm G) y_M_points 1 := ⟨(List.mem_filter.mpr ⟨List.mem_append_right _ (List.mem_of_getElem? (i := 607) (by decide +kernel)), by decide +kernel⟩), (List.mem_filter.mpr ⟨List.mem_append_right _ (List.mem_of_getElem? (i := 6) (by decide +kernel)), by decide +kernel⟩), ⟨by decide +kernel, by decide +kernel, by decide +kernel⟩, by decide⟩
theorem cy_M_order (G : xk_D) : xk_CY (xm G) y_M_order 1 := ⟨(List.mem_filter.mpr ⟨List.mem_append_right _ (List.mem_of_getElem? (i := 611) (by decide +kernel)), by decide +kernel⟩), (List.mem_filter.mpr ⟨List.mem_append_right _ (List.mem_of_getElem? (i := 6) (by decide +kernel)), by decide +kernel⟩), ⟨by decide +kernel, by decide +kernel, by decide +kernel⟩, by decide⟩
theorem cy_M_path (G : xk_D) : xk_CY (xm G) y_M_path 2 := ⟨(List.mem_filter.mpr ⟨List.mem_append_right _ (List.mem_of_getElem? (i := 615) (by decide +kernel)), by decide +kernel⟩), (List.mem_filter.mpr ⟨List.mem_append_right _ (List.mem_of_getElem? (i := 6) (by decide +kernel)), by decide +kernel⟩), ⟨by decide +kernel, by decide +kernel, by decide +kernel⟩, by decide⟩
theorem cy_M_entries (G : xk_D) : xk_CY (xm G) y_M_entries 0 := ⟨(List.mem_filter.mpr ⟨List.mem_append_right _ (List.mem_of_getElem? (i := 619) (by decide +kernel)), by decide +kernel⟩), (List.mem_filter.mpr ⟨List.mem_append_right _ (List.mem_of_getElem? (i := 6) (by decide +kernel)), by decide +kernel⟩), ⟨by decide +kernel, by decide +kernel, by decide +kernel⟩, by decide⟩
theorem cy_M_winner (G : xk_D) : xk_CY (xm G) y_M_winner 0 := ⟨(List.mem_filter.mpr ⟨List.mem_append_right _ (List.mem_of_getElem? (i := 623) (by decide +kernel)), by decide +kernel⟩), (List.mem_filter.mpr ⟨List.mem_append_right _ (List.mem_of_getElem? (i := 6) (by decide +kernel)), by decide +kernel⟩), ⟨by decide +kernel, by decide +kernel, by decide +kernel⟩, by decide⟩
theorem ca_F_43 {a1 : Value} {Q : Int32 → xk_St → Prop} (hc : xk_H K (xc G) cc nL RF d ret P) (hd : xk_d cc pc (.invokestatic 43) 3 pc') (hM : xk_M (xc G) d' y_F_isTile [a1] σ (xk_pi Q)) (kk : ∀ (r : Int32) (τ : xk_St), Q r τ → xk_X K (xk_vw (xc G)) τ pc' lv (.int r :: st)) (hdd : d' + 1 ≤ d := by decide) (hst : (st.map fun v => v.category).sum ≤ 8 := by exact Nat.le_of_ble_eq_true rfl) : xk_X K (xk_vw (xc G)) σ pc lv (a1 :: st) :=
  x_callS (As := [a1]) hc (xc_good G) (cy_F_isTile G) (List.mem_filter.mpr ⟨List.mem_append_right _ (List.mem_of_getElem? (i := 167) (by decide +kernel)), by decide +kernel⟩) (List.mem_filter.mpr ⟨List.mem_append_right _ (List.mem_of_getElem? (i := 168) (by decide +kernel)), by decide +kernel⟩) hM hdd rfl hst hd (fun v τ h => by obtain ⟨r, rfl, h⟩ := h; exact kk r τ h)
theorem ca_F_47 {p : Nat} {a1 : Value} {Q : Int32 → xk_St → Prop} (hc : xk_H K (xc G) cc nL RF d ret P) (hp : p < 2) (hd : xk_d cc pc (.invokevirtual 47) 3 pc') (hM : xk_M (xc G) d' y_P_isTaken [.ref (xk_wA (xc G) (10 + 3 * p)), a1] σ (xk_pi Q)) (kk : ∀ (r : Int32) (τ : xk_St), Q r τ → xk_X K (xk_vw (xc G)) τ pc' lv (.int r :: st)) (hdd : d' + 1 ≤ d := by decide) (hst : (st.map fun v => v.category).sum ≤ 8 := by exact Nat.le_of_ble_eq_true rfl) : xk_X K (xk_vw (xc G)) σ pc lv (a1 :: .ref (xk_wA (xc G) (10 + 3 * p)) :: st) :=
  x_callV (As := [a1]) hc (xc_good G) (cy_P_isTaken G) (List.mem_filter.mpr ⟨List.mem_append_right _ (List.mem_of_getElem? (i := 170) (by decide +kernel)), by decide +kernel⟩) (xc_shP hp) rfl (List.mem_filter.mpr ⟨List.mem_append_right _ (List.mem_of_getElem? (i := 171) (by decide +kernel)), by decide +kernel⟩) (List.mem_filter.mpr ⟨List.mem_append_right _ (List.mem_of_getElem? (i := 172) (by decide +kernel)), by decide +kernel⟩) hM hdd rfl hst hd (fun v τ h => by obtain ⟨r, rfl, h⟩ := h; exact kk r τ h)
theorem ca_P_44 {p : Nat} {Q : Int64 → xk_St → Prop} (hc : xk_H K (xc G) cc nL RP d ret P) (hp : p < 2) (hd : xk_d cc pc (.invokevirtual 44) 3 pc') (hM : xk_M (xc G) d' y_P_takenTiles [.ref (xk_wA (xc G) (10 + 3 * p))] σ (xk_pl Q)) (kk : ∀ (r : Int64) (τ : xk_St), Q r τ → xk_X K (xk_vw (xc G)) τ pc' lv (.long r :: st)) (hdd : d' + 1 ≤ d := by decide) (hst : (st.map fun v => v.category).sum ≤ 8 := by exact Nat.le_of_ble_eq_true rfl) : xk_X K (xk_vw (xc G)) σ pc lv (.ref (xk_wA (xc G) (10 + 3 * p)) :: st) :=
  x_callV (As := []) hc (xc_good G) (cy_P_takenTiles G) (List.mem_filter.mpr ⟨List.mem_append_right _ (List.mem_of_getElem? (i := 174) (by decide +kernel)), by decide +kernel⟩) (xc_shP hp) rfl (List.mem_filter.mpr ⟨List.mem_append_right _ (List.mem_of_getElem? (i := 176) (by decide +kernel)), by decide +kernel⟩) (List.mem_filter.mpr ⟨List.mem_append_left _ (List.mem_of_getElem? (i := 0) (by decide +kernel)), by decide +kernel⟩) hM hdd rfl hst hd (fun v τ h => by obtain ⟨r, rfl, h⟩ := h; exact kk r τ h)
theorem ca_P_40 {k : Nat} {Q : Int32 → xk_St → Prop} (hc : xk_H K (xc G) cc nL RP d ret P) (hk : 17 ≤ k ∧ k < 33) (hd : xk_d cc pc (.invokevirtual 40) 3 pc') (hM : xk_M (xc G) d' y_U_isDead [.ref (xk_wA (xc G) k)] σ (xk_pi Q)) (kk : ∀ (r : Int32) (τ : xk_St), Q r τ → xk_X K (xk_vw (xc G)) τ pc' lv (.int r :: st)) (hdd : d' + 1 ≤ d := by decide) (hst : (st.map fun v => v.category).sum ≤ 8 := by exact Nat.le_of_ble_eq_true rfl) : xk_X K (xk_vw (xc G)) σ pc lv (.ref (xk_wA (xc G) k) :: st) :=
  x_callV (As := []) hc (xc_good G) (cy_U_isDead G) (List.mem_filter.mpr ⟨List.mem_append_right _ (List.mem_of_getElem? (i := 178) (by decide +kernel)), by decide +kernel⟩) (xc_shU hk) rfl (List.mem_filter.mpr ⟨List.mem_append_right _ (List.mem_of_getElem? (i := 179) (by decide +kernel)), by decide +kernel⟩) (List.mem_filter.mpr ⟨List.mem_append_right _ (List.mem_of_getElem? (i := 180) (by decide +kernel)), by decide +kernel⟩) hM hdd rfl hst hd (fun v τ h => by obtain ⟨r, rfl, h⟩ := h; exact kk r τ h)
theorem ca_P_48 {a1 : Value} {Q : Int64 → xk_St → Prop} (hc : xk_H K (xc G) cc nL RP d ret P) (hd : xk_d cc pc (.invokestatic 48) 3 pc') (hM : xk_M (xc G) d' y_G_bit [a1] σ (xk_pl Q)) (kk : ∀ (r : Int64) (τ : xk_St), Q r τ → xk_X K (xk_vw (xc G)) τ pc' lv (.long r :: st)) (hdd : d' + 1 ≤ d := by decide) (hst : (st.map fun v => v.category).sum ≤ 8 := by exact Nat.le_of_ble_eq_true rfl) : xk_X K (xk_vw (xc G)) σ pc lv (a1 :: st) :=
  x_callS (As := [a1]) hc (xc_good G) (cy_G_bit G) (List.mem_filter.mpr ⟨List.mem_append_right _ (List.mem_of_getElem? (i := 182) (by decide +kernel)), by decide +kernel⟩) (List.mem_filter.mpr ⟨List.mem_append_right _ (List.mem_of_getElem? (i := 183) (by decide +kernel)), by decide +kernel⟩) hM hdd rfl hst hd (fun v τ h => by obtain ⟨r, rfl, h⟩ := h; exact kk r τ h)
theorem ca_F_50 {a1 a2 : Value} {Q : xk_St → Prop} (hc : xk_H K (xc G) cc nL RF d ret P) (hd : xk_d cc pc (.invokevirtual 50) 3 pc') (hM : xk_M (xc G) d' y_G_build [.ref (xk_wA (xc G) 1), a1, a2] σ (xk_pv Q)) (kk : ∀ (τ : xk_St), Q τ → xk_X K (xk_vw (xc G)) τ pc' lv st) (hdd : d' + 1 ≤ d := by decide) (hst : (st.map fun v => v.category).sum ≤ 8 := by exact Nat.le_of_ble_eq_true rfl) : xk_X K (xk_vw (xc G)) σ pc lv (a2 :: a1 :: .ref (xk_wA (xc G) 1) :: st) :=
  x_callV (As := [a1, a2]) hc (xc_good G) (cy_G_build G) (List.mem_filter.mpr ⟨List.mem_append_right _ (List.mem_of_getElem? (i := 185) (by decide +kernel)), by decide +kernel⟩) rfl rfl (List.mem_filter.mpr ⟨List.mem_append_right _ (List.mem_of_getElem? (i := 186) (by decide +kernel)), by decide +kernel⟩) (List.mem_filter.mpr ⟨List.mem_append_right _ (List.mem_of_getElem? (i := 187) (by decide +kernel)), by decide +kernel⟩) hM hdd rfl hst hd (fun v τ h => by obtain ⟨rfl, h⟩ := h; exact kk τ h)
theorem ca_G_25 {a1 : Value} {Q : Int64 → xk_St → Prop} (hc : xk_H K (xc G) cc nL RG d ret P) (hd : xk_d cc pc (.invokestatic 25) 3 pc') (hM : xk_M (xc G) d' y_G_bit [a1] σ (xk_pl Q)) (kk : ∀ (r : Int64) (τ : xk_St), Q r τ → xk_X K (xk_vw (xc G)) τ pc' lv (.long r :: st)) (hdd : d' + 1 ≤ d := by decide) (hst : (st.map fun v => v.category).sum ≤ 8 := by exact Nat.le_of_ble_eq_true rfl) : xk_X K (xk_vw (xc G)) σ pc lv (a1 :: st) :=
  x_callS (As := [a1]) hc (xc_good G) (cy_G_bit G) (List.mem_filter.mpr ⟨List.mem_append_right _ (List.mem_of_getElem? (i := 189) (by decide +kernel)), by decide +kernel⟩) (List.mem_filter.mpr ⟨List.mem_append_right _ (List.mem_of_getElem? (i := 183) (by decide +kernel)), by decide +kernel⟩) hM hdd rfl hst hd (fun v τ h => by obtain ⟨r, rfl, h⟩ := h; exact kk r τ h)
theorem ca_F_54 {a1 : Value} {Q : Int32 → xk_St → Prop} (hc : xk_H K (xc G) cc nL RF d ret P) (hd : xk_d cc pc (.invokevirtual 54) 3 pc') (hM : xk_M (xc G) d' y_G_isWall [.ref (xk_wA (xc G) 1), a1] σ (xk_pi Q)) (kk : ∀ (r : Int32) (τ : xk_St), Q r τ → xk_X K (xk_vw (xc G)) τ pc' lv (.int r :: st)) (hdd : d' + 1 ≤ d := by decide) (hst : (st.map fun v => v.category).sum ≤ 8 := by exact Nat.le_of_ble_eq_true rfl) : xk_X K (xk_vw (xc G)) σ pc lv (a1 :: .ref (xk_wA (xc G) 1) :: st) :=
  x_callV (As := [a1]) hc (xc_good G) (cy_G_isWall G) (List.mem_filter.mpr ⟨List.mem_append_right _ (List.mem_of_getElem? (i := 195) (by decide +kernel)), by decide +kernel⟩) rfl rfl (List.mem_filter.mpr ⟨List.mem_append_right _ (List.mem_of_getElem? (i := 196) (by decide +kernel)), by decide +kernel⟩) (List.mem_filter.mpr ⟨List.mem_append_right _ (List.mem_of_getElem? (i := 197) (by decide +kernel)), by decide +kernel⟩) hM hdd rfl hst hd (fun v τ h => by obtain ⟨r, rfl, h⟩ := h; exact kk r τ h)
theorem ca_F_61 {p : Nat} {a1 a2 : Value} {Q : Int32 → xk_St → Prop} (hc : xk_H K (xc G) cc nL RF d ret P) (hp : p < 2) (hd : xk_d cc pc (.invokevirtual 61) 3 pc') (hM : xk_M (xc G) d' y_P_place [.ref (xk_wA (xc G) (10 + 3 * p)), a1, a2] σ (xk_pi Q)) (kk : ∀ (r : Int32) (τ : xk_St), Q r τ → xk_X K (xk_vw (xc G)) τ pc' lv (.int r :: st)) (hdd : d' + 1 ≤ d := by decide) (hst : (st.map fun v => v.category).sum ≤ 8 := by exact Nat.le_of_ble_eq_true rfl) : xk_X K (xk_vw (xc G)) σ pc lv (a2 :: a1 :: .ref (xk_wA (xc G) (10 + 3 * p)) :: st) :=
  x_callV (As := [a1, a2]) hc (xc_good G) (cy_P_place G) (List.mem_filter.mpr ⟨List.mem_append_right _ (List.mem_of_getElem? (i := 199) (by decide +kernel)), by decide +kernel⟩) (xc_shP hp) rfl (List.mem_filter.mpr ⟨List.mem_append_right _ (List.mem_of_getElem? (i := 200) (by decide +kernel)), by decide +kernel⟩) (List.mem_filter.mpr ⟨List.mem_append_right _ (List.mem_of_getElem? (i := 201) (by decide +kernel)), by decide +kernel⟩) hM hdd rfl hst hd (fun v τ h => by obtain ⟨r, rfl, h⟩ := h; exact kk r τ h)
theorem ca_P_30 {k : Nat} {a1 a2 : Value} {Q : xk_St → Prop} (hc : xk_H K (xc G) cc nL RP d ret P) (hk : 17 ≤ k ∧ k < 33) (hd : xk_d cc pc (.invokevirtual 30) 3 pc') (hM : xk_M (xc G) d' y_U_settle [.ref (xk_wA (xc G) k), a1, a2] σ (xk_pv Q)) (kk : ∀ (τ : xk_St), Q τ → xk_X K (xk_vw (xc G)) τ pc' lv st) (hdd : d' + 1 ≤ d := by decide) (hst : (st.map fun v => v.category).sum ≤ 8 := by exact Nat.le_of_ble_eq_true rfl) : xk_X K (xk_vw (xc G)) σ pc lv (a2 :: a1 :: .ref (xk_wA (xc G) k) :: st) :=
  x_callV (As := [a1, a2]) hc (xc_good G) (cy_U_settle G) (List.mem_filter.mpr ⟨List.mem_append_right _ (List.mem_of_getElem? (i := 203) (by decide +kernel)), by decide +kernel⟩) (xc_shU hk) rfl (List.mem_filter.mpr ⟨List.mem_append_right _ (List.mem_of_getElem? (i := 204) (by decide +kernel)), by decide +kernel⟩) (List.mem_filter.mpr ⟨List.mem_append_right _ (List.mem_of_getElem? (i := 205) (by decide +kernel)), by decide +kernel⟩) hM hdd rfl hst hd (fun v τ h => by obtain ⟨rfl, h⟩ := h; exact kk τ h)
theorem ca_U_22 {k : Nat} {Q : xk_St → Prop} (hc : xk_H K (xc G) cc nL RU d ret P) (hk : 17 ≤ k ∧ k < 33) (hd : xk_d cc pc (.invokevirtual 22) 3 pc') (hM : xk_M (xc G) d' y_U_restart [.ref (xk_wA (xc G) k)] σ (xk_pv Q)) (kk : ∀ (τ : xk_St), Q τ → xk_X K (xk_vw (xc G)) τ pc' lv st) (hdd : d' + 1 ≤ d := by decide) (hst : (st.map fun v => v.category).sum ≤ 8 := by exact Nat.le_of_ble_eq_true rfl) : xk_X K (xk_vw (xc G)) σ pc lv (.ref (xk_wA (xc G) k) :: st) :=
  x_callV (As := []) hc (xc_good G) (cy_U_restart G) (List.mem_filter.mpr ⟨List.mem_append_right _ (List.mem_of_getElem? (i := 207) (by decide +kernel)), by decide +kernel⟩) (xc_shU hk) rfl (List.mem_filter.mpr ⟨List.mem_append_right _ (List.mem_of_getElem? (i := 208) (by decide +kernel)), by decide +kernel⟩) (List.mem_filter.mpr ⟨List.mem_append_right _ (List.mem_of_getElem? (i := 209) (by decide +kernel)), by decide +kernel⟩) hM hdd rfl hst hd (fun v τ h => by obtain ⟨rfl, h⟩ := h; exact kk τ h)
theorem ca_U_35 {k : Nat} {a1 a2 : Value} {Q : xk_St → Prop} (hc : xk_H K (xc G) cc nL RU d ret P) (hk : 17 ≤ k ∧ k < 33) (hd : xk_d cc pc (.invokevirtual 35) 3 pc') (hM : xk_M (xc G) d' y_U_obey [.ref (xk_wA (xc G) k), a1, a2] σ (xk_pv Q)) (kk : ∀ (τ : xk_St), Q τ → xk_X K (xk_vw (xc G)) τ pc' lv st) (hdd : d' + 1 ≤ d := by decide) (hst : (st.map fun v => v.category).sum ≤ 8 := by exact Nat.le_of_ble_eq_true rfl) : xk_X K (xk_vw (xc G)) σ pc lv (a2 :: a1 :: .ref (xk_wA (xc G) k) :: st) :=
  x_callV (As := [a1, a2]) hc (xc_good G) (cy_U_obey G) (List.mem_filter.mpr ⟨List.mem_append_right _ (List.mem_of_getElem? (i := 211) (by decide +kernel)), by decide +kernel⟩) (xc_shU hk) rfl (List.mem_filter.mpr ⟨List.mem_append_right _ (List.mem_of_getElem? (i := 212) (by decide +kernel)), by decide +kernel⟩) (List.mem_filter.mpr ⟨List.mem_append_right _ (List.mem_of_getElem? (i := 213) (by decide +kernel)), by decide +kernel⟩) hM hdd rfl hst hd (fun v τ h => by obtain ⟨rfl, h⟩ := h; exact kk τ h)
theorem ca_U_48 {k : Nat} {Q : xk_St → Prop} (hc : xk_H K (xc G) cc nL RU d ret P) (hk : 17 ≤ k ∧ k < 33) (hd : xk_d cc pc (.invokevirtual 48) 3 pc') (hM : xk_M (xc G) d' y_U_clearPath [.ref (xk_wA (xc G) k)] σ (xk_pv Q)) (kk : ∀ (τ : xk_St), Q τ → xk_X K (xk_vw (xc G)) τ pc' lv st) (hdd : d' + 1 ≤ d := by decide) (hst : (st.map fun v => v.category).sum ≤ 8 := by exact Nat.le_of_ble_eq_true rfl) : xk_X K (xk_vw (xc G)) σ pc lv (.ref (xk_wA (xc G) k) :: st) :=
  x_callV (As := []) hc (xc_good G) (cy_U_clearPath G) (List.mem_filter.mpr ⟨List.mem_append_right _ (List.mem_of_getElem? (i := 215) (by decide +kernel)), by decide +kernel⟩) (xc_shU hk) rfl (List.mem_filter.mpr ⟨List.mem_append_right _ (List.mem_of_getElem? (i := 216) (by decide +kernel)), by decide +kernel⟩) (List.mem_filter.mpr ⟨List.mem_append_right _ (List.mem_of_getElem? (i := 217) (by decide +kernel)), by decide +kernel⟩) hM hdd rfl hst hd (fun v τ h => by obtain ⟨rfl, h⟩ := h; exact kk τ h)
theorem ca_F_65 {p : Nat} {a1 : Value} {Q : Int32 → xk_St → Prop} (hc : xk_H K (xc G) cc nL RF d ret P) (hp : p < 2) (hd : xk_d cc pc (.invokevirtual 65) 3 pc') (hM : xk_M (xc G) d' y_P_has [.ref (xk_wA (xc G) (10 + 3 * p)), a1] σ (xk_pi Q)) (kk : ∀ (r : Int32) (τ : xk_St), Q r τ → xk_X K (xk_vw (xc G)) τ pc' lv (.int r :: st)) (hdd : d' + 1 ≤ d := by decide) (hst : (st.map fun v => v.category).sum ≤ 8 := by exact Nat.le_of_ble_eq_true rfl) : xk_X K (xk_vw (xc G)) σ pc lv (a1 :: .ref (xk_wA (xc G) (10 + 3 * p)) :: st) :=
  x_callV (As := [a1]) hc (xc_good G) (cy_P_has G) (List.mem_filter.mpr ⟨List.mem_append_right _ (List.mem_of_getElem? (i := 227) (by decide +kernel)), by decide +kernel⟩) (xc_shP hp) rfl (List.mem_filter.mpr ⟨List.mem_append_right _ (List.mem_of_getElem? (i := 228) (by decide +kernel)), by decide +kernel⟩) (List.mem_filter.mpr ⟨List.mem_append_right _ (List.mem_of_getElem? (i := 229) (by decide +kernel)), by decide +kernel⟩) hM hdd rfl hst hd (fun v τ h => by obtain ⟨r, rfl, h⟩ := h; exact kk r τ h)
theorem ca_F_68 {a1 a2 a3 : Value} {Q : Int32 → xk_St → Prop} (hc : xk_H K (xc G) cc nL RF d ret P) (hd : xk_d cc pc (.invokevirtual 68) 3 pc') (hM : xk_M (xc G) d' y_F_isKindWithNumber [.ref (xk_wA (xc G) 0), a1, a2, a3] σ (xk_pi Q)) (kk : ∀ (r : Int32) (τ : xk_St), Q r τ → xk_X K (xk_vw (xc G)) τ pc' lv (.int r :: st)) (hdd : d' + 1 ≤ d := by decide) (hst : (st.map fun v => v.category).sum ≤ 8 := by exact Nat.le_of_ble_eq_true rfl) : xk_X K (xk_vw (xc G)) σ pc lv (a3 :: a2 :: a1 :: .ref (xk_wA (xc G) 0) :: st) :=
  x_callV (As := [a1, a2, a3]) hc (xc_good G) (cy_F_isKindWithNumber G) (List.mem_filter.mpr ⟨List.mem_append_right _ (List.mem_of_getElem? (i := 231) (by decide +kernel)), by decide +kernel⟩) rfl rfl (List.mem_filter.mpr ⟨List.mem_append_right _ (List.mem_of_getElem? (i := 233) (by decide +kernel)), by decide +kernel⟩) (List.mem_filter.mpr ⟨List.mem_append_left _ (List.mem_of_getElem? (i := 1) (by decide +kernel)), by decide +kernel⟩) hM hdd rfl hst hd (fun v τ h => by obtain ⟨r, rfl, h⟩ := h; exact kk r τ h)
theorem ca_F_76 {a1 a2 a3 a4 : Value} {Q : Int32 → xk_St → Prop} (hc : xk_H K (xc G) cc nL RF d ret P) (hd : xk_d cc pc (.invokevirtual 76) 3 pc') (hM : xk_M (xc G) d' y_L_add [.ref (xk_wA (xc G) 5), a1, a2, a3, a4] σ (xk_pi Q)) (kk : ∀ (r : Int32) (τ : xk_St), Q r τ → xk_X K (xk_vw (xc G)) τ pc' lv (.int r :: st)) (hdd : d' + 1 ≤ d := by decide) (hst : (st.map fun v => v.category).sum ≤ 8 := by exact Nat.le_of_ble_eq_true rfl) : xk_X K (xk_vw (xc G)) σ pc lv (a4 :: a3 :: a2 :: a1 :: .ref (xk_wA (xc G) 5) :: st) :=
  x_callV (As := [a1, a2, a3, a4]) hc (xc_good G) (cy_L_add G) (List.mem_filter.mpr ⟨List.mem_append_right _ (List.mem_of_getElem? (i := 235) (by decide +kernel)), by decide +kernel⟩) rfl rfl (List.mem_filter.mpr ⟨List.mem_append_right _ (List.mem_of_getElem? (i := 236) (by decide +kernel)), by decide +kernel⟩) (List.mem_filter.mpr ⟨List.mem_append_right _ (List.mem_of_getElem? (i := 237) (by decide +kernel)), by decide +kernel⟩) hM hdd rfl hst hd (fun v τ h => by obtain ⟨r, rfl, h⟩ := h; exact kk r τ h)
theorem ca_F_80 {a1 : Value} {Q : xk_St → Prop} (hc : xk_H K (xc G) cc nL RF d ret P) (hd : xk_d cc pc (.invokevirtual 80) 3 pc') (hM : xk_M (xc G) d' y_L_remove [.ref (xk_wA (xc G) 5), a1] σ (xk_pv Q)) (kk : ∀ (τ : xk_St), Q τ → xk_X K (xk_vw (xc G)) τ pc' lv st) (hdd : d' + 1 ≤ d := by decide) (hst : (st.map fun v => v.category).sum ≤ 8 := by exact Nat.le_of_ble_eq_true rfl) : xk_X K (xk_vw (xc G)) σ pc lv (a1 :: .ref (xk_wA (xc G) 5) :: st) :=
  x_callV (As := [a1]) hc (xc_good G) (cy_L_remove G) (List.mem_filter.mpr ⟨List.mem_append_right _ (List.mem_of_getElem? (i := 243) (by decide +kernel)), by decide +kernel⟩) rfl rfl (List.mem_filter.mpr ⟨List.mem_append_right _ (List.mem_of_getElem? (i := 244) (by decide +kernel)), by decide +kernel⟩) (List.mem_filter.mpr ⟨List.mem_append_right _ (List.mem_of_getElem? (i := 245) (by decide +kernel)), by decide +kernel⟩) hM hdd rfl hst hd (fun v τ h => by obtain ⟨rfl, h⟩ := h; exact kk τ h)
theorem ca_L_28 {a1 a2 : Value} {Q : xk_St → Prop} (hc : xk_H K (xc G) cc nL RL d ret P) (hd : xk_d cc pc (.invokevirtual 28) 3 pc') (hM : xk_M (xc G) d' y_L_closeGap [.ref (xk_wA (xc G) 5), a1, a2] σ (xk_pv Q)) (kk : ∀ (τ : xk_St), Q τ → xk_X K (xk_vw (xc G)) τ pc' lv st) (hdd : d' + 1 ≤ d := by decide) (hst : (st.map fun v => v.category).sum ≤ 8 := by exact Nat.le_of_ble_eq_true rfl) : xk_X K (xk_vw (xc G)) σ pc lv (a2 :: a1 :: .ref (xk_wA (xc G) 5) :: st) :=
  x_callV (As := [a1, a2]) hc (xc_good G) (cy_L_closeGap G) (List.mem_filter.mpr ⟨List.mem_append_right _ (List.mem_of_getElem? (i := 247) (by decide +kernel)), by decide +kernel⟩) rfl rfl (List.mem_filter.mpr ⟨List.mem_append_right _ (List.mem_of_getElem? (i := 249) (by decide +kernel)), by decide +kernel⟩) (List.mem_filter.mpr ⟨List.mem_append_left _ (List.mem_of_getElem? (i := 2) (by decide +kernel)), by decide +kernel⟩) hM hdd rfl hst hd (fun v τ h => by obtain ⟨rfl, h⟩ := h; exact kk τ h)
theorem ca_F_84 {p : Nat} {a1 a2 : Value} {Q : Int32 → xk_St → Prop} (hc : xk_H K (xc G) cc nL RF d ret P) (hp : p < 2) (hd : xk_d cc pc (.invokevirtual 84) 3 pc') (hM : xk_M (xc G) d' y_P_playTick [.ref (xk_wA (xc G) (10 + 3 * p)), a1, a2] σ (xk_pi Q)) (kk : ∀ (r : Int32) (τ : xk_St), Q r τ → xk_X K (xk_vw (xc G)) τ pc' lv (.int r :: st)) (hdd : d' + 1 ≤ d := by decide) (hst : (st.map fun v => v.category).sum ≤ 8 := by exact Nat.le_of_ble_eq_true rfl) : xk_X K (xk_vw (xc G)) σ pc lv (a2 :: a1 :: .ref (xk_wA (xc G) (10 + 3 * p)) :: st) :=
  x_callV (As := [a1, a2]) hc (xc_good G) (cy_P_playTick G) (List.mem_filter.mpr ⟨List.mem_append_right _ (List.mem_of_getElem? (i := 258) (by decide +kernel)), by decide +kernel⟩) (xc_shP hp) rfl (List.mem_filter.mpr ⟨List.mem_append_right _ (List.mem_of_getElem? (i := 259) (by decide +kernel)), by decide +kernel⟩) (List.mem_filter.mpr ⟨List.mem_append_right _ (List.mem_of_getElem? (i := 260) (by decide +kernel)), by decide +kernel⟩) hM hdd rfl hst hd (fun v τ h => by obtain ⟨r, rfl, h⟩ := h; exact kk r τ h)
theorem ca_P_54 {p : Nat} {a1 a2 : Value} {Q : xk_St → Prop} (hc : xk_H K (xc G) cc nL RP d ret P) (hp : p < 2) (hd : xk_d cc pc (.invokevirtual 54) 3 pc') (hM : xk_M (xc G) d' y_P_giveOrders [.ref (xk_wA (xc G) (10 + 3 * p)), a1, a2] σ (xk_pv Q)) (kk : ∀ (τ : xk_St), Q τ → xk_X K (xk_vw (xc G)) τ pc' lv st) (hdd : d' + 1 ≤ d := by decide) (hst : (st.map fun v => v.category).sum ≤ 8 := by exact Nat.le_of_ble_eq_true rfl) : xk_X K (xk_vw (xc G)) σ pc lv (a2 :: a1 :: .ref (xk_wA (xc G) (10 + 3 * p)) :: st) :=
  x_callV (As := [a1, a2]) hc (xc_good G) (cy_P_giveOrders G) (List.mem_filter.mpr ⟨List.mem_append_right _ (List.mem_of_getElem? (i := 262) (by decide +kernel)), by decide +kernel⟩) (xc_shP hp) rfl (List.mem_filter.mpr ⟨List.mem_append_right _ (List.mem_of_getElem? (i := 264) (by decide +kernel)), by decide +kernel⟩) (List.mem_filter.mpr ⟨List.mem_append_left _ (List.mem_of_getElem? (i := 3) (by decide +kernel)), by decide +kernel⟩) hM hdd rfl hst hd (fun v τ h => by obtain ⟨rfl, h⟩ := h; exact kk τ h)
theorem ca_P_92 {k : Nat} {a1 a2 : Value} {Q : xk_St → Prop} (hc : xk_H K (xc G) cc nL RP d ret P) (hk : 17 ≤ k ∧ k < 33) (hd : xk_d cc pc (.invokevirtual 92) 3 pc') (hM : xk_M (xc G) d' y_U_obey [.ref (xk_wA (xc G) k), a1, a2] σ (xk_pv Q)) (kk : ∀ (τ : xk_St), Q τ → xk_X K (xk_vw (xc G)) τ pc' lv st) (hdd : d' + 1 ≤ d := by decide) (hst : (st.map fun v => v.category).sum ≤ 8 := by exact Nat.le_of_ble_eq_true rfl) : xk_X K (xk_vw (xc G)) σ pc lv (a2 :: a1 :: .ref (xk_wA (xc G) k) :: st) :=
  x_callV (As := [a1, a2]) hc (xc_good G) (cy_U_obey G) (List.mem_filter.mpr ⟨List.mem_append_right _ (List.mem_of_getElem? (i := 266) (by decide +kernel)), by decide +kernel⟩) (xc_shU hk) rfl (List.mem_filter.mpr ⟨List.mem_append_right _ (List.mem_of_getElem? (i := 212) (by decide +kernel)), by decide +kernel⟩) (List.mem_filter.mpr ⟨List.mem_append_right _ (List.mem_of_getElem? (i := 213) (by decide +kernel)), by decide +kernel⟩) hM hdd rfl hst hd (fun v τ h => by obtain ⟨rfl, h⟩ := h; exact kk τ h)
theorem ca_P_61 {p : Nat} {a1 : Value} {Q : xk_St → Prop} (hc : xk_H K (xc G) cc nL RP d ret P) (hp : p < 2) (hd : xk_d cc pc (.invokevirtual 61) 3 pc') (hM : xk_M (xc G) d' y_P_follow [.ref (xk_wA (xc G) (10 + 3 * p)), a1] σ (xk_pv Q)) (kk : ∀ (τ : xk_St), Q τ → xk_X K (xk_vw (xc G)) τ pc' lv st) (hdd : d' + 1 ≤ d := by decide) (hst : (st.map fun v => v.category).sum ≤ 8 := by exact Nat.le_of_ble_eq_true rfl) : xk_X K (xk_vw (xc G)) σ pc lv (a1 :: .ref (xk_wA (xc G) (10 + 3 * p)) :: st) :=
  x_callV (As := [a1]) hc (xc_good G) (cy_P_follow G) (List.mem_filter.mpr ⟨List.mem_append_right _ (List.mem_of_getElem? (i := 267) (by decide +kernel)), by decide +kernel⟩) (xc_shP hp) rfl (List.mem_filter.mpr ⟨List.mem_append_right _ (List.mem_of_getElem? (i := 269) (by decide +kernel)), by decide +kernel⟩) (List.mem_filter.mpr ⟨List.mem_append_left _ (List.mem_of_getElem? (i := 4) (by decide +kernel)), by decide +kernel⟩) hM hdd rfl hst hd (fun v τ h => by obtain ⟨rfl, h⟩ := h; exact kk τ h)
theorem ca_P_95 {p : Nat} {a1 : Value} {Q : Int32 → xk_St → Prop} (hc : xk_H K (xc G) cc nL RP d ret P) (hp : p < 2) (hd : xk_d cc pc (.invokevirtual 95) 3 pc') (hM : xk_M (xc G) d' y_P_goalOf [.ref (xk_wA (xc G) (10 + 3 * p)), a1] σ (xk_pi Q)) (kk : ∀ (r : Int32) (τ : xk_St), Q r τ → xk_X K (xk_vw (xc G)) τ pc' lv (.int r :: st)) (hdd : d' + 1 ≤ d := by decide) (hst : (st.map fun v => v.category).sum ≤ 8 := by exact Nat.le_of_ble_eq_true rfl) : xk_X K (xk_vw (xc G)) σ pc lv (a1 :: .ref (xk_wA (xc G) (10 + 3 * p)) :: st) :=
  x_callV (As := [a1]) hc (xc_good G) (cy_P_goalOf G) (List.mem_filter.mpr ⟨List.mem_append_right _ (List.mem_of_getElem? (i := 271) (by decide +kernel)), by decide +kernel⟩) (xc_shP hp) rfl (List.mem_filter.mpr ⟨List.mem_append_right _ (List.mem_of_getElem? (i := 273) (by decide +kernel)), by decide +kernel⟩) (List.mem_filter.mpr ⟨List.mem_append_left _ (List.mem_of_getElem? (i := 5) (by decide +kernel)), by decide +kernel⟩) hM hdd rfl hst hd (fun v τ h => by obtain ⟨r, rfl, h⟩ := h; exact kk r τ h)
theorem ca_P_116 {a1 : Value} {Q : Int32 → xk_St → Prop} (hc : xk_H K (xc G) cc nL RP d ret P) (hd : xk_d cc pc (.invokevirtual 116) 3 pc') (hM : xk_M (xc G) d' y_G_isWall [.ref (xk_wA (xc G) 1), a1] σ (xk_pi Q)) (kk : ∀ (r : Int32) (τ : xk_St), Q r τ → xk_X K (xk_vw (xc G)) τ pc' lv (.int r :: st)) (hdd : d' + 1 ≤ d := by decide) (hst : (st.map fun v => v.category).sum ≤ 8 := by exact Nat.le_of_ble_eq_true rfl) : xk_X K (xk_vw (xc G)) σ pc lv (a1 :: .ref (xk_wA (xc G) 1) :: st) :=
  x_callV (As := [a1]) hc (xc_good G) (cy_G_isWall G) (List.mem_filter.mpr ⟨List.mem_append_right _ (List.mem_of_getElem? (i := 275) (by decide +kernel)), by decide +kernel⟩) rfl rfl (List.mem_filter.mpr ⟨List.mem_append_right _ (List.mem_of_getElem? (i := 196) (by decide +kernel)), by decide +kernel⟩) (List.mem_filter.mpr ⟨List.mem_append_right _ (List.mem_of_getElem? (i := 197) (by decide +kernel)), by decide +kernel⟩) hM hdd rfl hst hd (fun v τ h => by obtain ⟨r, rfl, h⟩ := h; exact kk r τ h)
theorem ca_P_99 {k : Nat} {Q : xk_St → Prop} (hc : xk_H K (xc G) cc nL RP d ret P) (hk : 17 ≤ k ∧ k < 33) (hd : xk_d cc pc (.invokevirtual 99) 3 pc') (hM : xk_M (xc G) d' y_U_dropOrder [.ref (xk_wA (xc G) k)] σ (xk_pv Q)) (kk : ∀ (τ : xk_St), Q τ → xk_X K (xk_vw (xc G)) τ pc' lv st) (hdd : d' + 1 ≤ d := by decide) (hst : (st.map fun v => v.category).sum ≤ 8 := by exact Nat.le_of_ble_eq_true rfl) : xk_X K (xk_vw (xc G)) σ pc lv (.ref (xk_wA (xc G) k) :: st) :=
  x_callV (As := []) hc (xc_good G) (cy_U_dropOrder G) (List.mem_filter.mpr ⟨List.mem_append_right _ (List.mem_of_getElem? (i := 276) (by decide +kernel)), by decide +kernel⟩) (xc_shU hk) rfl (List.mem_filter.mpr ⟨List.mem_append_right _ (List.mem_of_getElem? (i := 277) (by decide +kernel)), by decide +kernel⟩) (List.mem_filter.mpr ⟨List.mem_append_right _ (List.mem_of_getElem? (i := 278) (by decide +kernel)), by decide +kernel⟩) hM hdd rfl hst hd (fun v τ h => by obtain ⟨rfl, h⟩ := h; exact kk τ h)
theorem ca_P_102 {a1 a2 : Value} {Q : Int32 → xk_St → Prop} (hc : xk_H K (xc G) cc nL RP d ret P) (hd : xk_d cc pc (.invokestatic 102) 3 pc') (hM : xk_M (xc G) d' y_G_distance [a1, a2] σ (xk_pi Q)) (kk : ∀ (r : Int32) (τ : xk_St), Q r τ → xk_X K (xk_vw (xc G)) τ pc' lv (.int r :: st)) (hdd : d' + 1 ≤ d := by decide) (hst : (st.map fun v => v.category).sum ≤ 8 := by exact Nat.le_of_ble_eq_true rfl) : xk_X K (xk_vw (xc G)) σ pc lv (a2 :: a1 :: st) :=
  x_callS (As := [a1, a2]) hc (xc_good G) (cy_G_distance G) (List.mem_filter.mpr ⟨List.mem_append_right _ (List.mem_of_getElem? (i := 280) (by decide +kernel)), by decide +kernel⟩) (List.mem_filter.mpr ⟨List.mem_append_right _ (List.mem_of_getElem? (i := 281) (by decide +kernel)), by decide +kernel⟩) hM hdd rfl hst hd (fun v τ h => by obtain ⟨r, rfl, h⟩ := h; exact kk r τ h)
theorem ca_P_106 {k : Nat} {Q : xk_St → Prop} (hc : xk_H K (xc G) cc nL RP d ret P) (hk : 17 ≤ k ∧ k < 33) (hd : xk_d cc pc (.invokevirtual 106) 3 pc') (hM : xk_M (xc G) d' y_U_clearPath [.ref (xk_wA (xc G) k)] σ (xk_pv Q)) (kk : ∀ (τ : xk_St), Q τ → xk_X K (xk_vw (xc G)) τ pc' lv st) (hdd : d' + 1 ≤ d := by decide) (hst : (st.map fun v => v.category).sum ≤ 8 := by exact Nat.le_of_ble_eq_true rfl) : xk_X K (xk_vw (xc G)) σ pc lv (.ref (xk_wA (xc G) k) :: st) :=
  x_callV (As := []) hc (xc_good G) (cy_U_clearPath G) (List.mem_filter.mpr ⟨List.mem_append_right _ (List.mem_of_getElem? (i := 286) (by decide +kernel)), by decide +kernel⟩) (xc_shU hk) rfl (List.mem_filter.mpr ⟨List.mem_append_right _ (List.mem_of_getElem? (i := 216) (by decide +kernel)), by decide +kernel⟩) (List.mem_filter.mpr ⟨List.mem_append_right _ (List.mem_of_getElem? (i := 217) (by decide +kernel)), by decide +kernel⟩) hM hdd rfl hst hd (fun v τ h => by obtain ⟨rfl, h⟩ := h; exact kk τ h)
theorem ca_P_109 {p : Nat} {a1 a2 : Value} {Q : xk_St → Prop} (hc : xk_H K (xc G) cc nL RP d ret P) (hp : p < 2) (hd : xk_d cc pc (.invokevirtual 109) 3 pc') (hM : xk_M (xc G) d' y_P_walk [.ref (xk_wA (xc G) (10 + 3 * p)), a1, a2] σ (xk_pv Q)) (kk : ∀ (τ : xk_St), Q τ → xk_X K (xk_vw (xc G)) τ pc' lv st) (hdd : d' + 1 ≤ d := by decide) (hst : (st.map fun v => v.category).sum ≤ 8 := by exact Nat.le_of_ble_eq_true rfl) : xk_X K (xk_vw (xc G)) σ pc lv (a2 :: a1 :: .ref (xk_wA (xc G) (10 + 3 * p)) :: st) :=
  x_callV (As := [a1, a2]) hc (xc_good G) (cy_P_walk G) (List.mem_filter.mpr ⟨List.mem_append_right _ (List.mem_of_getElem? (i := 287) (by decide +kernel)), by decide +kernel⟩) (xc_shP hp) rfl (List.mem_filter.mpr ⟨List.mem_append_right _ (List.mem_of_getElem? (i := 289) (by decide +kernel)), by decide +kernel⟩) (List.mem_filter.mpr ⟨List.mem_append_left _ (List.mem_of_getElem? (i := 6) (by decide +kernel)), by decide +kernel⟩) hM hdd rfl hst hd (fun v τ h => by obtain ⟨rfl, h⟩ := h; exact kk τ h)
theorem ca_P_120 {k : Nat} {a1 : Value} {Q : Int32 → xk_St → Prop} (hc : xk_H K (xc G) cc nL RP d ret P) (hk : 17 ≤ k ∧ k < 33) (hd : xk_d cc pc (.invokevirtual 120) 3 pc') (hM : xk_M (xc G) d' y_U_isPathTo [.ref (xk_wA (xc G) k), a1] σ (xk_pi Q)) (kk : ∀ (r : Int32) (τ : xk_St), Q r τ → xk_X K (xk_vw (xc G)) τ pc' lv (.int r :: st)) (hdd : d' + 1 ≤ d := by decide) (hst : (st.map fun v => v.category).sum ≤ 8 := by exact Nat.le_of_ble_eq_true rfl) : xk_X K (xk_vw (xc G)) σ pc lv (a1 :: .ref (xk_wA (xc G) k) :: st) :=
  x_callV (As := [a1]) hc (xc_good G) (cy_U_isPathTo G) (List.mem_filter.mpr ⟨List.mem_append_right _ (List.mem_of_getElem? (i := 291) (by decide +kernel)), by decide +kernel⟩) (xc_shU hk) rfl (List.mem_filter.mpr ⟨List.mem_append_right _ (List.mem_of_getElem? (i := 292) (by decide +kernel)), by decide +kernel⟩) (List.mem_filter.mpr ⟨List.mem_append_right _ (List.mem_of_getElem? (i := 293) (by decide +kernel)), by decide +kernel⟩) hM hdd rfl hst hd (fun v τ h => by obtain ⟨r, rfl, h⟩ := h; exact kk r τ h)
theorem ca_U_67 {k : Nat} {Q : Int32 → xk_St → Prop} (hc : xk_H K (xc G) cc nL RU d ret P) (hk : 17 ≤ k ∧ k < 33) (hd : xk_d cc pc (.invokevirtual 67) 3 pc') (hM : xk_M (xc G) d' y_U_pathLength [.ref (xk_wA (xc G) k)] σ (xk_pi Q)) (kk : ∀ (r : Int32) (τ : xk_St), Q r τ → xk_X K (xk_vw (xc G)) τ pc' lv (.int r :: st)) (hdd : d' + 1 ≤ d := by decide) (hst : (st.map fun v => v.category).sum ≤ 8 := by exact Nat.le_of_ble_eq_true rfl) : xk_X K (xk_vw (xc G)) σ pc lv (.ref (xk_wA (xc G) k) :: st) :=
  x_callV (As := []) hc (xc_good G) (cy_U_pathLength G) (List.mem_filter.mpr ⟨List.mem_append_right _ (List.mem_of_getElem? (i := 295) (by decide +kernel)), by decide +kernel⟩) (xc_shU hk) rfl (List.mem_filter.mpr ⟨List.mem_append_right _ (List.mem_of_getElem? (i := 296) (by decide +kernel)), by decide +kernel⟩) (List.mem_filter.mpr ⟨List.mem_append_right _ (List.mem_of_getElem? (i := 297) (by decide +kernel)), by decide +kernel⟩) hM hdd rfl hst hd (fun v τ h => by obtain ⟨r, rfl, h⟩ := h; exact kk r τ h)
theorem ca_P_123 {p : Nat} {a1 a2 a3 : Value} {Q : xk_St → Prop} (hc : xk_H K (xc G) cc nL RP d ret P) (hp : p < 2) (hd : xk_d cc pc (.invokevirtual 123) 3 pc') (hM : xk_M (xc G) d' y_P_findPath [.ref (xk_wA (xc G) (10 + 3 * p)), a1, a2, a3] σ (xk_pv Q)) (kk : ∀ (τ : xk_St), Q τ → xk_X K (xk_vw (xc G)) τ pc' lv st) (hdd : d' + 1 ≤ d := by decide) (hst : (st.map fun v => v.category).sum ≤ 8 := by exact Nat.le_of_ble_eq_true rfl) : xk_X K (xk_vw (xc G)) σ pc lv (a3 :: a2 :: a1 :: .ref (xk_wA (xc G) (10 + 3 * p)) :: st) :=
  x_callV (As := [a1, a2, a3]) hc (xc_good G) (cy_P_findPath G) (List.mem_filter.mpr ⟨List.mem_append_right _ (List.mem_of_getElem? (i := 299) (by decide +kernel)), by decide +kernel⟩) (xc_shP hp) rfl (List.mem_filter.mpr ⟨List.mem_append_right _ (List.mem_of_getElem? (i := 301) (by decide +kernel)), by decide +kernel⟩) (List.mem_filter.mpr ⟨List.mem_append_left _ (List.mem_of_getElem? (i := 7) (by decide +kernel)), by decide +kernel⟩) hM hdd rfl hst hd (fun v τ h => by obtain ⟨rfl, h⟩ := h; exact kk τ h)
theorem ca_P_143 {a1 a2 a3 : Value} {Q : Int32 → xk_St → Prop} (hc : xk_H K (xc G) cc nL RP d ret P) (hd : xk_d cc pc (.invokevirtual 143) 3 pc') (hM : xk_M (xc G) d' y_G_search [.ref (xk_wA (xc G) 1), a1, a2, a3] σ (xk_pi Q)) (kk : ∀ (r : Int32) (τ : xk_St), Q r τ → xk_X K (xk_vw (xc G)) τ pc' lv (.int r :: st)) (hdd : d' + 1 ≤ d := by decide) (hst : (st.map fun v => v.category).sum ≤ 8 := by exact Nat.le_of_ble_eq_true rfl) : xk_X K (xk_vw (xc G)) σ pc lv (a3 :: a2 :: a1 :: .ref (xk_wA (xc G) 1) :: st) :=
  x_callV (As := [a1, a2, a3]) hc (xc_good G) (cy_G_search G) (List.mem_filter.mpr ⟨List.mem_append_right _ (List.mem_of_getElem? (i := 303) (by decide +kernel)), by decide +kernel⟩) rfl rfl (List.mem_filter.mpr ⟨List.mem_append_right _ (List.mem_of_getElem? (i := 304) (by decide +kernel)), by decide +kernel⟩) (List.mem_filter.mpr ⟨List.mem_append_right _ (List.mem_of_getElem? (i := 305) (by decide +kernel)), by decide +kernel⟩) hM hdd rfl hst hd (fun v τ h => by obtain ⟨r, rfl, h⟩ := h; exact kk r τ h)
theorem ca_G_31 {a1 a2 : Value} {Q : xk_St → Prop} (hc : xk_H K (xc G) cc nL RG d ret P) (hd : xk_d cc pc (.invokestatic 31) 3 pc') (hM : xk_M (xc G) d' y_A_fill [a1, a2] σ (xk_pv Q)) (kk : ∀ (τ : xk_St), Q τ → xk_X K (xk_vw (xc G)) τ pc' lv st) (hdd : d' + 1 ≤ d := by decide) (hst : (st.map fun v => v.category).sum ≤ 8 := by exact Nat.le_of_ble_eq_true rfl) : xk_X K (xk_vw (xc G)) σ pc lv (a2 :: a1 :: st) :=
  x_callS (As := [a1, a2]) hc (xc_good G) (cy_A_fill G) (List.mem_filter.mpr ⟨List.mem_append_right _ (List.mem_of_getElem? (i := 307) (by decide +kernel)), by decide +kernel⟩) (List.mem_filter.mpr ⟨List.mem_append_right _ (List.mem_of_getElem? (i := 308) (by decide +kernel)), by decide +kernel⟩) hM hdd rfl hst hd (fun v τ h => by obtain ⟨rfl, h⟩ := h; exact kk τ h)
theorem ca_G_37 {a1 a2 : Value} {Q : Int32 → xk_St → Prop} (hc : xk_H K (xc G) cc nL RG d ret P) (hd : xk_d cc pc (.invokestatic 37) 3 pc') (hM : xk_M (xc G) d' y_G_beside [a1, a2] σ (xk_pi Q)) (kk : ∀ (r : Int32) (τ : xk_St), Q r τ → xk_X K (xk_vw (xc G)) τ pc' lv (.int r :: st)) (hdd : d' + 1 ≤ d := by decide) (hst : (st.map fun v => v.category).sum ≤ 8 := by exact Nat.le_of_ble_eq_true rfl) : xk_X K (xk_vw (xc G)) σ pc lv (a2 :: a1 :: st) :=
  x_callS (As := [a1, a2]) hc (xc_good G) (cy_G_beside G) (List.mem_filter.mpr ⟨List.mem_append_right _ (List.mem_of_getElem? (i := 310) (by decide +kernel)), by decide +kernel⟩) (List.mem_filter.mpr ⟨List.mem_append_right _ (List.mem_of_getElem? (i := 311) (by decide +kernel)), by decide +kernel⟩) hM hdd rfl hst hd (fun v τ h => by obtain ⟨r, rfl, h⟩ := h; exact kk r τ h)
theorem ca_P_150 {a1 a2 : Value} {Q : xk_St → Prop} (hc : xk_H K (xc G) cc nL RP d ret P) (hd : xk_d cc pc (.invokevirtual 150) 3 pc') (hM : xk_M (xc G) d' y_G_layPath [.ref (xk_wA (xc G) 1), a1, a2] σ (xk_pv Q)) (kk : ∀ (τ : xk_St), Q τ → xk_X K (xk_vw (xc G)) τ pc' lv st) (hdd : d' + 1 ≤ d := by decide) (hst : (st.map fun v => v.category).sum ≤ 8 := by exact Nat.le_of_ble_eq_true rfl) : xk_X K (xk_vw (xc G)) σ pc lv (a2 :: a1 :: .ref (xk_wA (xc G) 1) :: st) :=
  x_callV (As := [a1, a2]) hc (xc_good G) (cy_G_layPath G) (List.mem_filter.mpr ⟨List.mem_append_right _ (List.mem_of_getElem? (i := 313) (by decide +kernel)), by decide +kernel⟩) rfl rfl (List.mem_filter.mpr ⟨List.mem_append_right _ (List.mem_of_getElem? (i := 314) (by decide +kernel)), by decide +kernel⟩) (List.mem_filter.mpr ⟨List.mem_append_right _ (List.mem_of_getElem? (i := 315) (by decide +kernel)), by decide +kernel⟩) hM hdd rfl hst hd (fun v τ h => by obtain ⟨rfl, h⟩ := h; exact kk τ h)
theorem ca_P_127 {k : Nat} {Q : Int32 → xk_St → Prop} (hc : xk_H K (xc G) cc nL RP d ret P) (hk : 17 ≤ k ∧ k < 33) (hd : xk_d cc pc (.invokevirtual 127) 3 pc') (hM : xk_M (xc G) d' y_U_pathLength [.ref (xk_wA (xc G) k)] σ (xk_pi Q)) (kk : ∀ (r : Int32) (τ : xk_St), Q r τ → xk_X K (xk_vw (xc G)) τ pc' lv (.int r :: st)) (hdd : d' + 1 ≤ d := by decide) (hst : (st.map fun v => v.category).sum ≤ 8 := by exact Nat.le_of_ble_eq_true rfl) : xk_X K (xk_vw (xc G)) σ pc lv (.ref (xk_wA (xc G) k) :: st) :=
  x_callV (As := []) hc (xc_good G) (cy_U_pathLength G) (List.mem_filter.mpr ⟨List.mem_append_right _ (List.mem_of_getElem? (i := 317) (by decide +kernel)), by decide +kernel⟩) (xc_shU hk) rfl (List.mem_filter.mpr ⟨List.mem_append_right _ (List.mem_of_getElem? (i := 296) (by decide +kernel)), by decide +kernel⟩) (List.mem_filter.mpr ⟨List.mem_append_right _ (List.mem_of_getElem? (i := 297) (by decide +kernel)), by decide +kernel⟩) hM hdd rfl hst hd (fun v τ h => by obtain ⟨r, rfl, h⟩ := h; exact kk r τ h)
theorem ca_P_130 {k : Nat} {a1 : Value} {Q : Int32 → xk_St → Prop} (hc : xk_H K (xc G) cc nL RP d ret P) (hk : 17 ≤ k ∧ k < 33) (hd : xk_d cc pc (.invokevirtual 130) 3 pc') (hM : xk_M (xc G) d' y_U_pathTile [.ref (xk_wA (xc G) k), a1] σ (xk_pi Q)) (kk : ∀ (r : Int32) (τ : xk_St), Q r τ → xk_X K (xk_vw (xc G)) τ pc' lv (.int r :: st)) (hdd : d' + 1 ≤ d := by decide) (hst : (st.map fun v => v.category).sum ≤ 8 := by exact Nat.le_of_ble_eq_true rfl) : xk_X K (xk_vw (xc G)) σ pc lv (a1 :: .ref (xk_wA (xc G) k) :: st) :=
  x_callV (As := [a1]) hc (xc_good G) (cy_U_pathTile G) (List.mem_filter.mpr ⟨List.mem_append_right _ (List.mem_of_getElem? (i := 318) (by decide +kernel)), by decide +kernel⟩) (xc_shU hk) rfl (List.mem_filter.mpr ⟨List.mem_append_right _ (List.mem_of_getElem? (i := 319) (by decide +kernel)), by decide +kernel⟩) (List.mem_filter.mpr ⟨List.mem_append_right _ (List.mem_of_getElem? (i := 320) (by decide +kernel)), by decide +kernel⟩) hM hdd rfl hst hd (fun v τ h => by obtain ⟨r, rfl, h⟩ := h; exact kk r τ h)
theorem ca_P_134 {p : Nat} {a1 : Value} {Q : Int32 → xk_St → Prop} (hc : xk_H K (xc G) cc nL RP d ret P) (hp : p < 2) (hd : xk_d cc pc (.invokevirtual 134) 3 pc') (hM : xk_M (xc G) d' y_P_isTaken [.ref (xk_wA (xc G) (10 + 3 * p)), a1] σ (xk_pi Q)) (kk : ∀ (r : Int32) (τ : xk_St), Q r τ → xk_X K (xk_vw (xc G)) τ pc' lv (.int r :: st)) (hdd : d' + 1 ≤ d := by decide) (hst : (st.map fun v => v.category).sum ≤ 8 := by exact Nat.le_of_ble_eq_true rfl) : xk_X K (xk_vw (xc G)) σ pc lv (a1 :: .ref (xk_wA (xc G) (10 + 3 * p)) :: st) :=
  x_callV (As := [a1]) hc (xc_good G) (cy_P_isTaken G) (List.mem_filter.mpr ⟨List.mem_append_right _ (List.mem_of_getElem? (i := 322) (by decide +kernel)), by decide +kernel⟩) (xc_shP hp) rfl (List.mem_filter.mpr ⟨List.mem_append_right _ (List.mem_of_getElem? (i := 171) (by decide +kernel)), by decide +kernel⟩) (List.mem_filter.mpr ⟨List.mem_append_right _ (List.mem_of_getElem? (i := 172) (by decide +kernel)), by decide +kernel⟩) hM hdd rfl hst hd (fun v τ h => by obtain ⟨r, rfl, h⟩ := h; exact kk r τ h)
theorem ca_P_137 {k : Nat} {Q : xk_St → Prop} (hc : xk_H K (xc G) cc nL RP d ret P) (hk : 17 ≤ k ∧ k < 33) (hd : xk_d cc pc (.invokevirtual 137) 3 pc') (hM : xk_M (xc G) d' y_U_step [.ref (xk_wA (xc G) k)] σ (xk_pv Q)) (kk : ∀ (τ : xk_St), Q τ → xk_X K (xk_vw (xc G)) τ pc' lv st) (hdd : d' + 1 ≤ d := by decide) (hst : (st.map fun v => v.category).sum ≤ 8 := by exact Nat.le_of_ble_eq_true rfl) : xk_X K (xk_vw (xc G)) σ pc lv (.ref (xk_wA (xc G) k) :: st) :=
  x_callV (As := []) hc (xc_good G) (cy_U_step G) (List.mem_filter.mpr ⟨List.mem_append_right _ (List.mem_of_getElem? (i := 323) (by decide +kernel)), by decide +kernel⟩) (xc_shU hk) rfl (List.mem_filter.mpr ⟨List.mem_append_right _ (List.mem_of_getElem? (i := 324) (by decide +kernel)), by decide +kernel⟩) (List.mem_filter.mpr ⟨List.mem_append_right _ (List.mem_of_getElem? (i := 325) (by decide +kernel)), by decide +kernel⟩) hM hdd rfl hst hd (fun v τ h => by obtain ⟨rfl, h⟩ := h; exact kk τ h)
theorem ca_U_71 {k : Nat} {Q : xk_St → Prop} (hc : xk_H K (xc G) cc nL RU d ret P) (hk : 17 ≤ k ∧ k < 33) (hd : xk_d cc pc (.invokevirtual 71) 3 pc') (hM : xk_M (xc G) d' y_U_dropOrder [.ref (xk_wA (xc G) k)] σ (xk_pv Q)) (kk : ∀ (τ : xk_St), Q τ → xk_X K (xk_vw (xc G)) τ pc' lv st) (hdd : d' + 1 ≤ d := by decide) (hst : (st.map fun v => v.category).sum ≤ 8 := by exact Nat.le_of_ble_eq_true rfl) : xk_X K (xk_vw (xc G)) σ pc lv (.ref (xk_wA (xc G) k) :: st) :=
  x_callV (As := []) hc (xc_good G) (cy_U_dropOrder G) (List.mem_filter.mpr ⟨List.mem_append_right _ (List.mem_of_getElem? (i := 327) (by decide +kernel)), by decide +kernel⟩) (xc_shU hk) rfl (List.mem_filter.mpr ⟨List.mem_append_right _ (List.mem_of_getElem? (i := 277) (by decide +kernel)), by decide +kernel⟩) (List.mem_filter.mpr ⟨List.mem_append_right _ (List.mem_of_getElem? (i := 278) (by decide +kernel)), by decide +kernel⟩) hM hdd rfl hst hd (fun v τ h => by obtain ⟨rfl, h⟩ := h; exact kk τ h)
theorem ca_P_140 {k : Nat} {Q : Int32 → xk_St → Prop} (hc : xk_H K (xc G) cc nL RP d ret P) (hk : 17 ≤ k ∧ k < 33) (hd : xk_d cc pc (.invokevirtual 140) 3 pc') (hM : xk_M (xc G) d' y_U_runsOutOfPatience [.ref (xk_wA (xc G) k)] σ (xk_pi Q)) (kk : ∀ (r : Int32) (τ : xk_St), Q r τ → xk_X K (xk_vw (xc G)) τ pc' lv (.int r :: st)) (hdd : d' + 1 ≤ d := by decide) (hst : (st.map fun v => v.category).sum ≤ 8 := by exact Nat.le_of_ble_eq_true rfl) : xk_X K (xk_vw (xc G)) σ pc lv (.ref (xk_wA (xc G) k) :: st) :=
  x_callV (As := []) hc (xc_good G) (cy_U_runsOutOfPatience G) (List.mem_filter.mpr ⟨List.mem_append_right _ (List.mem_of_getElem? (i := 328) (by decide +kernel)), by decide +kernel⟩) (xc_shU hk) rfl (List.mem_filter.mpr ⟨List.mem_append_right _ (List.mem_of_getElem? (i := 329) (by decide +kernel)), by decide +kernel⟩) (List.mem_filter.mpr ⟨List.mem_append_right _ (List.mem_of_getElem? (i := 330) (by decide +kernel)), by decide +kernel⟩) hM hdd rfl hst hd (fun v τ h => by obtain ⟨r, rfl, h⟩ := h; exact kk r τ h)
theorem ca_P_65 {p : Nat} {Q : xk_St → Prop} (hc : xk_H K (xc G) cc nL RP d ret P) (hp : p < 2) (hd : xk_d cc pc (.invokevirtual 65) 3 pc') (hM : xk_M (xc G) d' y_P_exchangeBlows [.ref (xk_wA (xc G) (10 + 3 * p))] σ (xk_pv Q)) (kk : ∀ (τ : xk_St), Q τ → xk_X K (xk_vw (xc G)) τ pc' lv st) (hdd : d' + 1 ≤ d := by decide) (hst : (st.map fun v => v.category).sum ≤ 8 := by exact Nat.le_of_ble_eq_true rfl) : xk_X K (xk_vw (xc G)) σ pc lv (.ref (xk_wA (xc G) (10 + 3 * p)) :: st) :=
  x_callV (As := []) hc (xc_good G) (cy_P_exchangeBlows G) (List.mem_filter.mpr ⟨List.mem_append_right _ (List.mem_of_getElem? (i := 332) (by decide +kernel)), by decide +kernel⟩) (xc_shP hp) rfl (List.mem_filter.mpr ⟨List.mem_append_right _ (List.mem_of_getElem? (i := 334) (by decide +kernel)), by decide +kernel⟩) (List.mem_filter.mpr ⟨List.mem_append_left _ (List.mem_of_getElem? (i := 8) (by decide +kernel)), by decide +kernel⟩) hM hdd rfl hst hd (fun v τ h => by obtain ⟨rfl, h⟩ := h; exact kk τ h)
theorem ca_P_160 {a1 a2 : Value} {Q : xk_St → Prop} (hc : xk_H K (xc G) cc nL RP d ret P) (hd : xk_d cc pc (.invokestatic 160) 3 pc') (hM : xk_M (xc G) d' y_A_fill [a1, a2] σ (xk_pv Q)) (kk : ∀ (τ : xk_St), Q τ → xk_X K (xk_vw (xc G)) τ pc' lv st) (hdd : d' + 1 ≤ d := by decide) (hst : (st.map fun v => v.category).sum ≤ 8 := by exact Nat.le_of_ble_eq_true rfl) : xk_X K (xk_vw (xc G)) σ pc lv (a2 :: a1 :: st) :=
  x_callS (As := [a1, a2]) hc (xc_good G) (cy_A_fill G) (List.mem_filter.mpr ⟨List.mem_append_right _ (List.mem_of_getElem? (i := 336) (by decide +kernel)), by decide +kernel⟩) (List.mem_filter.mpr ⟨List.mem_append_right _ (List.mem_of_getElem? (i := 308) (by decide +kernel)), by decide +kernel⟩) hM hdd rfl hst hd (fun v τ h => by obtain ⟨rfl, h⟩ := h; exact kk τ h)
theorem ca_P_166 {a1 a2 : Value} {Q : Int32 → xk_St → Prop} (hc : xk_H K (xc G) cc nL RP d ret P) (hd : xk_d cc pc (.invokestatic 166) 3 pc') (hM : xk_M (xc G) d' y_P_reaches [a1, a2] σ (xk_pi Q)) (kk : ∀ (r : Int32) (τ : xk_St), Q r τ → xk_X K (xk_vw (xc G)) τ pc' lv (.int r :: st)) (hdd : d' + 1 ≤ d := by decide) (hst : (st.map fun v => v.category).sum ≤ 8 := by exact Nat.le_of_ble_eq_true rfl) : xk_X K (xk_vw (xc G)) σ pc lv (a2 :: a1 :: st) :=
  x_callS (As := [a1, a2]) hc (xc_good G) (cy_P_reaches G) (List.mem_filter.mpr ⟨List.mem_append_right _ (List.mem_of_getElem? (i := 337) (by decide +kernel)), by decide +kernel⟩) (List.mem_filter.mpr ⟨List.mem_append_right _ (List.mem_of_getElem? (i := 338) (by decide +kernel)), by decide +kernel⟩) hM hdd rfl hst hd (fun v τ h => by obtain ⟨r, rfl, h⟩ := h; exact kk r τ h)
theorem ca_P_170 {k : Nat} {a1 : Value} {Q : xk_St → Prop} (hc : xk_H K (xc G) cc nL RP d ret P) (hk : 17 ≤ k ∧ k < 33) (hd : xk_d cc pc (.invokevirtual 170) 3 pc') (hM : xk_M (xc G) d' y_U_suffer [.ref (xk_wA (xc G) k), a1] σ (xk_pv Q)) (kk : ∀ (τ : xk_St), Q τ → xk_X K (xk_vw (xc G)) τ pc' lv st) (hdd : d' + 1 ≤ d := by decide) (hst : (st.map fun v => v.category).sum ≤ 8 := by exact Nat.le_of_ble_eq_true rfl) : xk_X K (xk_vw (xc G)) σ pc lv (a1 :: .ref (xk_wA (xc G) k) :: st) :=
  x_callV (As := [a1]) hc (xc_good G) (cy_U_suffer G) (List.mem_filter.mpr ⟨List.mem_append_right _ (List.mem_of_getElem? (i := 340) (by decide +kernel)), by decide +kernel⟩) (xc_shU hk) rfl (List.mem_filter.mpr ⟨List.mem_append_right _ (List.mem_of_getElem? (i := 341) (by decide +kernel)), by decide +kernel⟩) (List.mem_filter.mpr ⟨List.mem_append_right _ (List.mem_of_getElem? (i := 342) (by decide +kernel)), by decide +kernel⟩) hM hdd rfl hst hd (fun v τ h => by obtain ⟨rfl, h⟩ := h; exact kk τ h)
theorem ca_U_57 {k : Nat} {Q : Int32 → xk_St → Prop} (hc : xk_H K (xc G) cc nL RU d ret P) (hk : 17 ≤ k ∧ k < 33) (hd : xk_d cc pc (.invokevirtual 57) 3 pc') (hM : xk_M (xc G) d' y_U_isDead [.ref (xk_wA (xc G) k)] σ (xk_pi Q)) (kk : ∀ (r : Int32) (τ : xk_St), Q r τ → xk_X K (xk_vw (xc G)) τ pc' lv (.int r :: st)) (hdd : d' + 1 ≤ d := by decide) (hst : (st.map fun v => v.category).sum ≤ 8 := by exact Nat.le_of_ble_eq_true rfl) : xk_X K (xk_vw (xc G)) σ pc lv (.ref (xk_wA (xc G) k) :: st) :=
  x_callV (As := []) hc (xc_good G) (cy_U_isDead G) (List.mem_filter.mpr ⟨List.mem_append_right _ (List.mem_of_getElem? (i := 347) (by decide +kernel)), by decide +kernel⟩) (xc_shU hk) rfl (List.mem_filter.mpr ⟨List.mem_append_right _ (List.mem_of_getElem? (i := 179) (by decide +kernel)), by decide +kernel⟩) (List.mem_filter.mpr ⟨List.mem_append_right _ (List.mem_of_getElem? (i := 180) (by decide +kernel)), by decide +kernel⟩) hM hdd rfl hst hd (fun v τ h => by obtain ⟨r, rfl, h⟩ := h; exact kk r τ h)
theorem ca_P_68 {p : Nat} {Q : xk_St → Prop} (hc : xk_H K (xc G) cc nL RP d ret P) (hp : p < 2) (hd : xk_d cc pc (.invokevirtual 68) 3 pc') (hM : xk_M (xc G) d' y_P_restAll [.ref (xk_wA (xc G) (10 + 3 * p))] σ (xk_pv Q)) (kk : ∀ (τ : xk_St), Q τ → xk_X K (xk_vw (xc G)) τ pc' lv st) (hdd : d' + 1 ≤ d := by decide) (hst : (st.map fun v => v.category).sum ≤ 8 := by exact Nat.le_of_ble_eq_true rfl) : xk_X K (xk_vw (xc G)) σ pc lv (.ref (xk_wA (xc G) (10 + 3 * p)) :: st) :=
  x_callV (As := []) hc (xc_good G) (cy_P_restAll G) (List.mem_filter.mpr ⟨List.mem_append_right _ (List.mem_of_getElem? (i := 348) (by decide +kernel)), by decide +kernel⟩) (xc_shP hp) rfl (List.mem_filter.mpr ⟨List.mem_append_right _ (List.mem_of_getElem? (i := 350) (by decide +kernel)), by decide +kernel⟩) (List.mem_filter.mpr ⟨List.mem_append_left _ (List.mem_of_getElem? (i := 9) (by decide +kernel)), by decide +kernel⟩) hM hdd rfl hst hd (fun v τ h => by obtain ⟨rfl, h⟩ := h; exact kk τ h)
theorem ca_P_174 {k : Nat} {Q : xk_St → Prop} (hc : xk_H K (xc G) cc nL RP d ret P) (hk : 17 ≤ k ∧ k < 33) (hd : xk_d cc pc (.invokevirtual 174) 3 pc') (hM : xk_M (xc G) d' y_U_rest [.ref (xk_wA (xc G) k)] σ (xk_pv Q)) (kk : ∀ (τ : xk_St), Q τ → xk_X K (xk_vw (xc G)) τ pc' lv st) (hdd : d' + 1 ≤ d := by decide) (hst : (st.map fun v => v.category).sum ≤ 8 := by exact Nat.le_of_ble_eq_true rfl) : xk_X K (xk_vw (xc G)) σ pc lv (.ref (xk_wA (xc G) k) :: st) :=
  x_callV (As := []) hc (xc_good G) (cy_U_rest G) (List.mem_filter.mpr ⟨List.mem_append_right _ (List.mem_of_getElem? (i := 352) (by decide +kernel)), by decide +kernel⟩) (xc_shU hk) rfl (List.mem_filter.mpr ⟨List.mem_append_right _ (List.mem_of_getElem? (i := 353) (by decide +kernel)), by decide +kernel⟩) (List.mem_filter.mpr ⟨List.mem_append_right _ (List.mem_of_getElem? (i := 354) (by decide +kernel)), by decide +kernel⟩) hM hdd rfl hst hd (fun v τ h => by obtain ⟨rfl, h⟩ := h; exact kk τ h)
theorem ca_P_71 {p : Nat} {Q : Int32 → xk_St → Prop} (hc : xk_H K (xc G) cc nL RP d ret P) (hp : p < 2) (hd : xk_d cc pc (.invokevirtual 71) 3 pc') (hM : xk_M (xc G) d' y_P_sum [.ref (xk_wA (xc G) (10 + 3 * p))] σ (xk_pi Q)) (kk : ∀ (r : Int32) (τ : xk_St), Q r τ → xk_X K (xk_vw (xc G)) τ pc' lv (.int r :: st)) (hdd : d' + 1 ≤ d := by decide) (hst : (st.map fun v => v.category).sum ≤ 8 := by exact Nat.le_of_ble_eq_true rfl) : xk_X K (xk_vw (xc G)) σ pc lv (.ref (xk_wA (xc G) (10 + 3 * p)) :: st) :=
  x_callV (As := []) hc (xc_good G) (cy_P_sum G) (List.mem_filter.mpr ⟨List.mem_append_right _ (List.mem_of_getElem? (i := 356) (by decide +kernel)), by decide +kernel⟩) (xc_shP hp) rfl (List.mem_filter.mpr ⟨List.mem_append_right _ (List.mem_of_getElem? (i := 358) (by decide +kernel)), by decide +kernel⟩) (List.mem_filter.mpr ⟨List.mem_append_left _ (List.mem_of_getElem? (i := 10) (by decide +kernel)), by decide +kernel⟩) hM hdd rfl hst hd (fun v τ h => by obtain ⟨r, rfl, h⟩ := h; exact kk r τ h)
theorem ca_F_88 {p : Nat} {Q : xk_St → Prop} (hc : xk_H K (xc G) cc nL RF d ret P) (hp : p < 2) (hd : xk_d cc pc (.invokevirtual 88) 3 pc') (hM : xk_M (xc G) d' y_P_restart [.ref (xk_wA (xc G) (10 + 3 * p))] σ (xk_pv Q)) (kk : ∀ (τ : xk_St), Q τ → xk_X K (xk_vw (xc G)) τ pc' lv st) (hdd : d' + 1 ≤ d := by decide) (hst : (st.map fun v => v.category).sum ≤ 8 := by exact Nat.le_of_ble_eq_true rfl) : xk_X K (xk_vw (xc G)) σ pc lv (.ref (xk_wA (xc G) (10 + 3 * p)) :: st) :=
  x_callV (As := []) hc (xc_good G) (cy_P_restart G) (List.mem_filter.mpr ⟨List.mem_append_right _ (List.mem_of_getElem? (i := 364) (by decide +kernel)), by decide +kernel⟩) (xc_shP hp) rfl (List.mem_filter.mpr ⟨List.mem_append_right _ (List.mem_of_getElem? (i := 365) (by decide +kernel)), by decide +kernel⟩) (List.mem_filter.mpr ⟨List.mem_append_right _ (List.mem_of_getElem? (i := 366) (by decide +kernel)), by decide +kernel⟩) hM hdd rfl hst hd (fun v τ h => by obtain ⟨rfl, h⟩ := h; exact kk τ h)
theorem ca_P_34 {k : Nat} {Q : xk_St → Prop} (hc : xk_H K (xc G) cc nL RP d ret P) (hk : 17 ≤ k ∧ k < 33) (hd : xk_d cc pc (.invokevirtual 34) 3 pc') (hM : xk_M (xc G) d' y_U_restart [.ref (xk_wA (xc G) k)] σ (xk_pv Q)) (kk : ∀ (τ : xk_St), Q τ → xk_X K (xk_vw (xc G)) τ pc' lv st) (hdd : d' + 1 ≤ d := by decide) (hst : (st.map fun v => v.category).sum ≤ 8 := by exact Nat.le_of_ble_eq_true rfl) : xk_X K (xk_vw (xc G)) σ pc lv (.ref (xk_wA (xc G) k) :: st) :=
  x_callV (As := []) hc (xc_good G) (cy_U_restart G) (List.mem_filter.mpr ⟨List.mem_append_right _ (List.mem_of_getElem? (i := 368) (by decide +kernel)), by decide +kernel⟩) (xc_shU hk) rfl (List.mem_filter.mpr ⟨List.mem_append_right _ (List.mem_of_getElem? (i := 208) (by decide +kernel)), by decide +kernel⟩) (List.mem_filter.mpr ⟨List.mem_append_right _ (List.mem_of_getElem? (i := 209) (by decide +kernel)), by decide +kernel⟩) hM hdd rfl hst hd (fun v τ h => by obtain ⟨rfl, h⟩ := h; exact kk τ h)
theorem ca_F_95 {k : Nat} {Q : Int32 → xk_St → Prop} (hc : xk_H K (xc G) cc nL RF d ret P) (hk : 17 ≤ k ∧ k < 33) (hd : xk_d cc pc (.invokevirtual 95) 3 pc') (hM : xk_M (xc G) d' y_U_isDead [.ref (xk_wA (xc G) k)] σ (xk_pi Q)) (kk : ∀ (r : Int32) (τ : xk_St), Q r τ → xk_X K (xk_vw (xc G)) τ pc' lv (.int r :: st)) (hdd : d' + 1 ≤ d := by decide) (hst : (st.map fun v => v.category).sum ≤ 8 := by exact Nat.le_of_ble_eq_true rfl) : xk_X K (xk_vw (xc G)) σ pc lv (.ref (xk_wA (xc G) k) :: st) :=
  x_callV (As := []) hc (xc_good G) (cy_U_isDead G) (List.mem_filter.mpr ⟨List.mem_append_right _ (List.mem_of_getElem? (i := 377) (by decide +kernel)), by decide +kernel⟩) (xc_shU hk) rfl (List.mem_filter.mpr ⟨List.mem_append_right _ (List.mem_of_getElem? (i := 179) (by decide +kernel)), by decide +kernel⟩) (List.mem_filter.mpr ⟨List.mem_append_right _ (List.mem_of_getElem? (i := 180) (by decide +kernel)), by decide +kernel⟩) hM hdd rfl hst hd (fun v τ h => by obtain ⟨r, rfl, h⟩ := h; exact kk r τ h)
theorem ca_F_113 {k : Nat} {Q : Int32 → xk_St → Prop} (hc : xk_H K (xc G) cc nL RF d ret P) (hk : 17 ≤ k ∧ k < 33) (hd : xk_d cc pc (.invokevirtual 113) 3 pc') (hM : xk_M (xc G) d' y_U_pathLength [.ref (xk_wA (xc G) k)] σ (xk_pi Q)) (kk : ∀ (r : Int32) (τ : xk_St), Q r τ → xk_X K (xk_vw (xc G)) τ pc' lv (.int r :: st)) (hdd : d' + 1 ≤ d := by decide) (hst : (st.map fun v => v.category).sum ≤ 8 := by exact Nat.le_of_ble_eq_true rfl) : xk_X K (xk_vw (xc G)) σ pc lv (.ref (xk_wA (xc G) k) :: st) :=
  x_callV (As := []) hc (xc_good G) (cy_U_pathLength G) (List.mem_filter.mpr ⟨List.mem_append_right _ (List.mem_of_getElem? (i := 390) (by decide +kernel)), by decide +kernel⟩) (xc_shU hk) rfl (List.mem_filter.mpr ⟨List.mem_append_right _ (List.mem_of_getElem? (i := 296) (by decide +kernel)), by decide +kernel⟩) (List.mem_filter.mpr ⟨List.mem_append_right _ (List.mem_of_getElem? (i := 297) (by decide +kernel)), by decide +kernel⟩) hM hdd rfl hst hd (fun v τ h => by obtain ⟨r, rfl, h⟩ := h; exact kk r τ h)
theorem ca_F_117 {k : Nat} {a1 : Value} {Q : Int32 → xk_St → Prop} (hc : xk_H K (xc G) cc nL RF d ret P) (hk : 17 ≤ k ∧ k < 33) (hd : xk_d cc pc (.invokevirtual 117) 3 pc') (hM : xk_M (xc G) d' y_U_pathTile [.ref (xk_wA (xc G) k), a1] σ (xk_pi Q)) (kk : ∀ (r : Int32) (τ : xk_St), Q r τ → xk_X K (xk_vw (xc G)) τ pc' lv (.int r :: st)) (hdd : d' + 1 ≤ d := by decide) (hst : (st.map fun v => v.category).sum ≤ 8 := by exact Nat.le_of_ble_eq_true rfl) : xk_X K (xk_vw (xc G)) σ pc lv (a1 :: .ref (xk_wA (xc G) k) :: st) :=
  x_callV (As := [a1]) hc (xc_good G) (cy_U_pathTile G) (List.mem_filter.mpr ⟨List.mem_append_right _ (List.mem_of_getElem? (i := 391) (by decide +kernel)), by decide +kernel⟩) (xc_shU hk) rfl (List.mem_filter.mpr ⟨List.mem_append_right _ (List.mem_of_getElem? (i := 319) (by decide +kernel)), by decide +kernel⟩) (List.mem_filter.mpr ⟨List.mem_append_right _ (List.mem_of_getElem? (i := 320) (by decide +kernel)), by decide +kernel⟩) hM hdd rfl hst hd (fun v τ h => by obtain ⟨r, rfl, h⟩ := h; exact kk r τ h)
theorem ca_F_121 {a1 a2 a3 : Value} {Q : Int32 → xk_St → Prop} (hc : xk_H K (xc G) cc nL RF d ret P) (hd : xk_d cc pc (.invokevirtual 121) 3 pc') (hM : xk_M (xc G) d' y_G_search [.ref (xk_wA (xc G) 1), a1, a2, a3] σ (xk_pi Q)) (kk : ∀ (r : Int32) (τ : xk_St), Q r τ → xk_X K (xk_vw (xc G)) τ pc' lv (.int r :: st)) (hdd : d' + 1 ≤ d := by decide) (hst : (st.map fun v => v.category).sum ≤ 8 := by exact Nat.le_of_ble_eq_true rfl) : xk_X K (xk_vw (xc G)) σ pc lv (a3 :: a2 :: a1 :: .ref (xk_wA (xc G) 1) :: st) :=
  x_callV (As := [a1, a2, a3]) hc (xc_good G) (cy_G_search G) (List.mem_filter.mpr ⟨List.mem_append_right _ (List.mem_of_getElem? (i := 400) (by decide +kernel)), by decide +kernel⟩) rfl rfl (List.mem_filter.mpr ⟨List.mem_append_right _ (List.mem_of_getElem? (i := 304) (by decide +kernel)), by decide +kernel⟩) (List.mem_filter.mpr ⟨List.mem_append_right _ (List.mem_of_getElem? (i := 305) (by decide +kernel)), by decide +kernel⟩) hM hdd rfl hst hd (fun v τ h => by obtain ⟨r, rfl, h⟩ := h; exact kk r τ h)
theorem ca_F_125 {p : Nat} {a1 : Value} {Q : Int32 → xk_St → Prop} (hc : xk_H K (xc G) cc nL RF d ret P) (hp : p < 2) (hd : xk_d cc pc (.invokevirtual 125) 3 pc') (hM : xk_M (xc G) d' y_P_hasLiving [.ref (xk_wA (xc G) (10 + 3 * p)), a1] σ (xk_pi Q)) (kk : ∀ (r : Int32) (τ : xk_St), Q r τ → xk_X K (xk_vw (xc G)) τ pc' lv (.int r :: st)) (hdd : d' + 1 ≤ d := by decide) (hst : (st.map fun v => v.category).sum ≤ 8 := by exact Nat.le_of_ble_eq_true rfl) : xk_X K (xk_vw (xc G)) σ pc lv (a1 :: .ref (xk_wA (xc G) (10 + 3 * p)) :: st) :=
  x_callV (As := [a1]) hc (xc_good G) (cy_P_hasLiving G) (List.mem_filter.mpr ⟨List.mem_append_right _ (List.mem_of_getElem? (i := 405) (by decide +kernel)), by decide +kernel⟩) (xc_shP hp) rfl (List.mem_filter.mpr ⟨List.mem_append_right _ (List.mem_of_getElem? (i := 406) (by decide +kernel)), by decide +kernel⟩) (List.mem_filter.mpr ⟨List.mem_append_right _ (List.mem_of_getElem? (i := 407) (by decide +kernel)), by decide +kernel⟩) hM hdd rfl hst hd (fun v τ h => by obtain ⟨r, rfl, h⟩ := h; exact kk r τ h)
theorem ca_M_97 {a1 : Value} {Q : Int32 → xk_St → Prop} (hc : xk_H K (xm G) cc nL RM d ret P) (hd : xk_d cc pc (.invokestatic 97) 3 pc') (hM : xk_M (xm G) d' y_M_isTile [a1] σ (xk_pi Q)) (kk : ∀ (r : Int32) (τ : xk_St), Q r τ → xk_X K (xk_vw (xm G)) τ pc' lv (.int r :: st)) (hdd : d' + 1 ≤ d := by decide) (hst : (st.map fun v => v.category).sum ≤ 8 := by exact Nat.le_of_ble_eq_true rfl) : xk_X K (xk_vw (xm G)) σ pc lv (a1 :: st) :=
  x_callS (As := [a1]) hc (xm_good G) (cy_M_isTile G) (List.mem_filter.mpr ⟨List.mem_append_right _ (List.mem_of_getElem? (i := 511) (by decide +kernel)), by decide +kernel⟩) (List.mem_filter.mpr ⟨List.mem_append_right _ (List.mem_of_getElem? (i := 512) (by decide +kernel)), by decide +kernel⟩) hM hdd rfl hst hd (fun v τ h => by obtain ⟨r, rfl, h⟩ := h; exact kk r τ h)
theorem ca_M_101 {a1 : Value} {Q : Int32 → xk_St → Prop} (hc : xk_H K (xm G) cc nL RM d ret P) (hd : xk_d cc pc (.invokevirtual 101) 3 pc') (hM : xk_M (xm G) d' y_M_isTaken [.ref (xk_wA (xm G) 0), a1] σ (xk_pi Q)) (kk : ∀ (r : Int32) (τ : xk_St), Q r τ → xk_X K (xk_vw (xm G)) τ pc' lv (.int r :: st)) (hdd : d' + 1 ≤ d := by decide) (hst : (st.map fun v => v.category).sum ≤ 8 := by exact Nat.le_of_ble_eq_true rfl) : xk_X K (xk_vw (xm G)) σ pc lv (a1 :: .ref (xk_wA (xm G) 0) :: st) :=
  x_callV (As := [a1]) hc (xm_good G) (cy_M_isTaken G) (List.mem_filter.mpr ⟨List.mem_append_right _ (List.mem_of_getElem? (i := 514) (by decide +kernel)), by decide +kernel⟩) rfl rfl (List.mem_filter.mpr ⟨List.mem_append_right _ (List.mem_of_getElem? (i := 516) (by decide +kernel)), by decide +kernel⟩) (List.mem_filter.mpr ⟨List.mem_append_left _ (List.mem_of_getElem? (i := 11) (by decide +kernel)), by decide +kernel⟩) hM hdd rfl hst hd (fun v τ h => by obtain ⟨r, rfl, h⟩ := h; exact kk r τ h)
theorem ca_M_104 {a1 : Value} {Q : Int32 → xk_St → Prop} (hc : xk_H K (xm G) cc nL RM d ret P) (hd : xk_d cc pc (.invokevirtual 104) 3 pc') (hM : xk_M (xm G) d' y_M_isUnit [.ref (xk_wA (xm G) 0), a1] σ (xk_pi Q)) (kk : ∀ (r : Int32) (τ : xk_St), Q r τ → xk_X K (xk_vw (xm G)) τ pc' lv (.int r :: st)) (hdd : d' + 1 ≤ d := by decide) (hst : (st.map fun v => v.category).sum ≤ 8 := by exact Nat.le_of_ble_eq_true rfl) : xk_X K (xk_vw (xm G)) σ pc lv (a1 :: .ref (xk_wA (xm G) 0) :: st) :=
  x_callV (As := [a1]) hc (xm_good G) (cy_M_isUnit G) (List.mem_filter.mpr ⟨List.mem_append_right _ (List.mem_of_getElem? (i := 530) (by decide +kernel)), by decide +kernel⟩) rfl rfl (List.mem_filter.mpr ⟨List.mem_append_right _ (List.mem_of_getElem? (i := 532) (by decide +kernel)), by decide +kernel⟩) (List.mem_filter.mpr ⟨List.mem_append_left _ (List.mem_of_getElem? (i := 12) (by decide +kernel)), by decide +kernel⟩) hM hdd rfl hst hd (fun v τ h => by obtain ⟨r, rfl, h⟩ := h; exact kk r τ h)
theorem ca_M_117 {a1 a2 a3 : Value} {Q : Int32 → xk_St → Prop} (hc : xk_H K (xm G) cc nL RM d ret P) (hd : xk_d cc pc (.invokevirtual 117) 3 pc') (hM : xk_M (xm G) d' y_M_find [.ref (xk_wA (xm G) 0), a1, a2, a3] σ (xk_pi Q)) (kk : ∀ (r : Int32) (τ : xk_St), Q r τ → xk_X K (xk_vw (xm G)) τ pc' lv (.int r :: st)) (hdd : d' + 1 ≤ d := by decide) (hst : (st.map fun v => v.category).sum ≤ 8 := by exact Nat.le_of_ble_eq_true rfl) : xk_X K (xk_vw (xm G)) σ pc lv (a3 :: a2 :: a1 :: .ref (xk_wA (xm G) 0) :: st) :=
  x_callV (As := [a1, a2, a3]) hc (xm_good G) (cy_M_find G) (List.mem_filter.mpr ⟨List.mem_append_right _ (List.mem_of_getElem? (i := 542) (by decide +kernel)), by decide +kernel⟩) rfl rfl (List.mem_filter.mpr ⟨List.mem_append_right _ (List.mem_of_getElem? (i := 544) (by decide +kernel)), by decide +kernel⟩) (List.mem_filter.mpr ⟨List.mem_append_left _ (List.mem_of_getElem? (i := 13) (by decide +kernel)), by decide +kernel⟩) hM hdd rfl hst hd (fun v τ h => by obtain ⟨r, rfl, h⟩ := h; exact kk r τ h)
theorem ca_M_113 {a1 a2 : Value} {Q : Int32 → xk_St → Prop} (hc : xk_H K (xm G) cc nL RM d ret P) (hd : xk_d cc pc (.invokestatic 113) 3 pc') (hM : xk_M (xm G) d' y_M_beside [a1, a2] σ (xk_pi Q)) (kk : ∀ (r : Int32) (τ : xk_St), Q r τ → xk_X K (xk_vw (xm G)) τ pc' lv (.int r :: st)) (hdd : d' + 1 ≤ d := by decide) (hst : (st.map fun v => v.category).sum ≤ 8 := by exact Nat.le_of_ble_eq_true rfl) : xk_X K (xk_vw (xm G)) σ pc lv (a2 :: a1 :: st) :=
  x_callS (As := [a1, a2]) hc (xm_good G) (cy_M_beside G) (List.mem_filter.mpr ⟨List.mem_append_right _ (List.mem_of_getElem? (i := 546) (by decide +kernel)), by decide +kernel⟩) (List.mem_filter.mpr ⟨List.mem_append_right _ (List.mem_of_getElem? (i := 547) (by decide +kernel)), by decide +kernel⟩) hM hdd rfl hst hd (fun v τ h => by obtain ⟨r, rfl, h⟩ := h; exact kk r τ h)
theorem ca_M_145 {a1 : Value} {Q : Int32 → xk_St → Prop} (hc : xk_H K (xm G) cc nL RM d ret P) (hd : xk_d cc pc (.invokevirtual 145) 3 pc') (hM : xk_M (xm G) d' y_M_play [.ref (xk_wA (xm G) 0), a1] σ (xk_pi Q)) (kk : ∀ (r : Int32) (τ : xk_St), Q r τ → xk_X K (xk_vw (xm G)) τ pc' lv (.int r :: st)) (hdd : d' + 1 ≤ d := by decide) (hst : (st.map fun v => v.category).sum ≤ 8 := by exact Nat.le_of_ble_eq_true rfl) : xk_X K (xk_vw (xm G)) σ pc lv (a1 :: .ref (xk_wA (xm G) 0) :: st) :=
  x_callV (As := [a1]) hc (xm_good G) (cy_M_play G) (List.mem_filter.mpr ⟨List.mem_append_right _ (List.mem_of_getElem? (i := 553) (by decide +kernel)), by decide +kernel⟩) rfl rfl (List.mem_filter.mpr ⟨List.mem_append_right _ (List.mem_of_getElem? (i := 555) (by decide +kernel)), by decide +kernel⟩) (List.mem_filter.mpr ⟨List.mem_append_left _ (List.mem_of_getElem? (i := 14) (by decide +kernel)), by decide +kernel⟩) hM hdd rfl hst hd (fun v τ h => by obtain ⟨r, rfl, h⟩ := h; exact kk r τ h)
theorem ca_M_136 {a1 : Value} {Q : xk_St → Prop} (hc : xk_H K (xm G) cc nL RM d ret P) (hd : xk_d cc pc (.invokevirtual 136) 3 pc') (hM : xk_M (xm G) d' y_M_obey [.ref (xk_wA (xm G) 0), a1] σ (xk_pv Q)) (kk : ∀ (τ : xk_St), Q τ → xk_X K (xk_vw (xm G)) τ pc' lv st) (hdd : d' + 1 ≤ d := by decide) (hst : (st.map fun v => v.category).sum ≤ 8 := by exact Nat.le_of_ble_eq_true rfl) : xk_X K (xk_vw (xm G)) σ pc lv (a1 :: .ref (xk_wA (xm G) 0) :: st) :=
  x_callV (As := [a1]) hc (xm_good G) (cy_M_obey G) (List.mem_filter.mpr ⟨List.mem_append_right _ (List.mem_of_getElem? (i := 557) (by decide +kernel)), by decide +kernel⟩) rfl rfl (List.mem_filter.mpr ⟨List.mem_append_right _ (List.mem_of_getElem? (i := 559) (by decide +kernel)), by decide +kernel⟩) (List.mem_filter.mpr ⟨List.mem_append_left _ (List.mem_of_getElem? (i := 15) (by decide +kernel)), by decide +kernel⟩) hM hdd rfl hst hd (fun v τ h => by obtain ⟨rfl, h⟩ := h; exact kk τ h)
theorem ca_M_139 {a1 : Value} {Q : xk_St → Prop} (hc : xk_H K (xm G) cc nL RM d ret P) (hd : xk_d cc pc (.invokevirtual 139) 3 pc') (hM : xk_M (xm G) d' y_M_move [.ref (xk_wA (xm G) 0), a1] σ (xk_pv Q)) (kk : ∀ (τ : xk_St), Q τ → xk_X K (xk_vw (xm G)) τ pc' lv st) (hdd : d' + 1 ≤ d := by decide) (hst : (st.map fun v => v.category).sum ≤ 8 := by exact Nat.le_of_ble_eq_true rfl) : xk_X K (xk_vw (xm G)) σ pc lv (a1 :: .ref (xk_wA (xm G) 0) :: st) :=
  x_callV (As := [a1]) hc (xm_good G) (cy_M_move G) (List.mem_filter.mpr ⟨List.mem_append_right _ (List.mem_of_getElem? (i := 561) (by decide +kernel)), by decide +kernel⟩) rfl rfl (List.mem_filter.mpr ⟨List.mem_append_right _ (List.mem_of_getElem? (i := 563) (by decide +kernel)), by decide +kernel⟩) (List.mem_filter.mpr ⟨List.mem_append_left _ (List.mem_of_getElem? (i := 16) (by decide +kernel)), by decide +kernel⟩) hM hdd rfl hst hd (fun v τ h => by obtain ⟨rfl, h⟩ := h; exact kk τ h)
theorem ca_M_121 {a1 : Value} {Q : xk_St → Prop} (hc : xk_H K (xm G) cc nL RM d ret P) (hd : xk_d cc pc (.invokevirtual 121) 3 pc') (hM : xk_M (xm G) d' y_M_stop [.ref (xk_wA (xm G) 0), a1] σ (xk_pv Q)) (kk : ∀ (τ : xk_St), Q τ → xk_X K (xk_vw (xm G)) τ pc' lv st) (hdd : d' + 1 ≤ d := by decide) (hst : (st.map fun v => v.category).sum ≤ 8 := by exact Nat.le_of_ble_eq_true rfl) : xk_X K (xk_vw (xm G)) σ pc lv (a1 :: .ref (xk_wA (xm G) 0) :: st) :=
  x_callV (As := [a1]) hc (xm_good G) (cy_M_stop G) (List.mem_filter.mpr ⟨List.mem_append_right _ (List.mem_of_getElem? (i := 565) (by decide +kernel)), by decide +kernel⟩) rfl rfl (List.mem_filter.mpr ⟨List.mem_append_right _ (List.mem_of_getElem? (i := 567) (by decide +kernel)), by decide +kernel⟩) (List.mem_filter.mpr ⟨List.mem_append_left _ (List.mem_of_getElem? (i := 17) (by decide +kernel)), by decide +kernel⟩) hM hdd rfl hst hd (fun v τ h => by obtain ⟨rfl, h⟩ := h; exact kk τ h)
theorem ca_M_125 {a1 a2 : Value} {Q : Int32 → xk_St → Prop} (hc : xk_H K (xm G) cc nL RM d ret P) (hd : xk_d cc pc (.invokestatic 125) 3 pc') (hM : xk_M (xm G) d' y_M_distance [a1, a2] σ (xk_pi Q)) (kk : ∀ (r : Int32) (τ : xk_St), Q r τ → xk_X K (xk_vw (xm G)) τ pc' lv (.int r :: st)) (hdd : d' + 1 ≤ d := by decide) (hst : (st.map fun v => v.category).sum ≤ 8 := by exact Nat.le_of_ble_eq_true rfl) : xk_X K (xk_vw (xm G)) σ pc lv (a2 :: a1 :: st) :=
  x_callS (As := [a1, a2]) hc (xm_good G) (cy_M_distance G) (List.mem_filter.mpr ⟨List.mem_append_right _ (List.mem_of_getElem? (i := 569) (by decide +kernel)), by decide +kernel⟩) (List.mem_filter.mpr ⟨List.mem_append_right _ (List.mem_of_getElem? (i := 570) (by decide +kernel)), by decide +kernel⟩) hM hdd rfl hst hd (fun v τ h => by obtain ⟨r, rfl, h⟩ := h; exact kk r τ h)
theorem ca_M_128 {a1 a2 : Value} {Q : xk_St → Prop} (hc : xk_H K (xm G) cc nL RM d ret P) (hd : xk_d cc pc (.invokevirtual 128) 3 pc') (hM : xk_M (xm G) d' y_M_take [.ref (xk_wA (xm G) 0), a1, a2] σ (xk_pv Q)) (kk : ∀ (τ : xk_St), Q τ → xk_X K (xk_vw (xm G)) τ pc' lv st) (hdd : d' + 1 ≤ d := by decide) (hst : (st.map fun v => v.category).sum ≤ 8 := by exact Nat.le_of_ble_eq_true rfl) : xk_X K (xk_vw (xm G)) σ pc lv (a2 :: a1 :: .ref (xk_wA (xm G) 0) :: st) :=
  x_callV (As := [a1, a2]) hc (xm_good G) (cy_M_take G) (List.mem_filter.mpr ⟨List.mem_append_right _ (List.mem_of_getElem? (i := 572) (by decide +kernel)), by decide +kernel⟩) rfl rfl (List.mem_filter.mpr ⟨List.mem_append_right _ (List.mem_of_getElem? (i := 574) (by decide +kernel)), by decide +kernel⟩) (List.mem_filter.mpr ⟨List.mem_append_left _ (List.mem_of_getElem? (i := 18) (by decide +kernel)), by decide +kernel⟩) hM hdd rfl hst hd (fun v τ h => by obtain ⟨rfl, h⟩ := h; exact kk τ h)
theorem ca_M_132 {a1 a2 a3 : Value} {Q : xk_St → Prop} (hc : xk_H K (xm G) cc nL RM d ret P) (hd : xk_d cc pc (.invokevirtual 132) 3 pc') (hM : xk_M (xm G) d' y_M_step [.ref (xk_wA (xm G) 0), a1, a2, a3] σ (xk_pv Q)) (kk : ∀ (τ : xk_St), Q τ → xk_X K (xk_vw (xm G)) τ pc' lv st) (hdd : d' + 1 ≤ d := by decide) (hst : (st.map fun v => v.category).sum ≤ 8 := by exact Nat.le_of_ble_eq_true rfl) : xk_X K (xk_vw (xm G)) σ pc lv (a3 :: a2 :: a1 :: .ref (xk_wA (xm G) 0) :: st) :=
  x_callV (As := [a1, a2, a3]) hc (xm_good G) (cy_M_step G) (List.mem_filter.mpr ⟨List.mem_append_right _ (List.mem_of_getElem? (i := 576) (by decide +kernel)), by decide +kernel⟩) rfl rfl (List.mem_filter.mpr ⟨List.mem_append_right _ (List.mem_of_getElem? (i := 578) (by decide +kernel)), by decide +kernel⟩) (List.mem_filter.mpr ⟨List.mem_append_left _ (List.mem_of_getElem? (i := 19) (by decide +kernel)), by decide +kernel⟩) hM hdd rfl hst hd (fun v τ h => by obtain ⟨rfl, h⟩ := h; exact kk τ h)
theorem ca_M_142 {Q : xk_St → Prop} (hc : xk_H K (xm G) cc nL RM d ret P) (hd : xk_d cc pc (.invokevirtual 142) 3 pc') (hM : xk_M (xm G) d' y_M_fight [.ref (xk_wA (xm G) 0)] σ (xk_pv Q)) (kk : ∀ (τ : xk_St), Q τ → xk_X K (xk_vw (xm G)) τ pc' lv st) (hdd : d' + 1 ≤ d := by decide) (hst : (st.map fun v => v.category).sum ≤ 8 := by exact Nat.le_of_ble_eq_true rfl) : xk_X K (xk_vw (xm G)) σ pc lv (.ref (xk_wA (xm G) 0) :: st) :=
  x_callV (As := []) hc (xm_good G) (cy_M_fight G) (List.mem_filter.mpr ⟨List.mem_append_right _ (List.mem_of_getElem? (i := 580) (by decide +kernel)), by decide +kernel⟩) rfl rfl (List.mem_filter.mpr ⟨List.mem_append_right _ (List.mem_of_getElem? (i := 582) (by decide +kernel)), by decide +kernel⟩) (List.mem_filter.mpr ⟨List.mem_append_left _ (List.mem_of_getElem? (i := 20) (by decide +kernel)), by decide +kernel⟩) hM hdd rfl hst hd (fun v τ h => by obtain ⟨rfl, h⟩ := h; exact kk τ h)
theorem ca_M_149 {Q : xk_St → Prop} (hc : xk_H K (xm G) cc nL RM d ret P) (hd : xk_d cc pc (.invokevirtual 149) 3 pc') (hM : xk_M (xm G) d' y_M_layAside [.ref (xk_wA (xm G) 0)] σ (xk_pv Q)) (kk : ∀ (τ : xk_St), Q τ → xk_X K (xk_vw (xm G)) τ pc' lv st) (hdd : d' + 1 ≤ d := by decide) (hst : (st.map fun v => v.category).sum ≤ 8 := by exact Nat.le_of_ble_eq_true rfl) : xk_X K (xk_vw (xm G)) σ pc lv (.ref (xk_wA (xm G) 0) :: st) :=
  x_callV (As := []) hc (xm_good G) (cy_M_layAside G) (List.mem_filter.mpr ⟨List.mem_append_right _ (List.mem_of_getElem? (i := 588) (by decide +kernel)), by decide +kernel⟩) rfl rfl (List.mem_filter.mpr ⟨List.mem_append_right _ (List.mem_of_getElem? (i := 590) (by decide +kernel)), by decide +kernel⟩) (List.mem_filter.mpr ⟨List.mem_append_left _ (List.mem_of_getElem? (i := 21) (by decide +kernel)), by decide +kernel⟩) hM hdd rfl hst hd (fun v τ h => by obtain ⟨rfl, h⟩ := h; exact kk τ h)
theorem ca_M_152 {Q : xk_St → Prop} (hc : xk_H K (xm G) cc nL RM d ret P) (hd : xk_d cc pc (.invokevirtual 152) 3 pc') (hM : xk_M (xm G) d' y_M_putBack [.ref (xk_wA (xm G) 0)] σ (xk_pv Q)) (kk : ∀ (τ : xk_St), Q τ → xk_X K (xk_vw (xm G)) τ pc' lv st) (hdd : d' + 1 ≤ d := by decide) (hst : (st.map fun v => v.category).sum ≤ 8 := by exact Nat.le_of_ble_eq_true rfl) : xk_X K (xk_vw (xm G)) σ pc lv (.ref (xk_wA (xm G) 0) :: st) :=
  x_callV (As := []) hc (xm_good G) (cy_M_putBack G) (List.mem_filter.mpr ⟨List.mem_append_right _ (List.mem_of_getElem? (i := 592) (by decide +kernel)), by decide +kernel⟩) rfl rfl (List.mem_filter.mpr ⟨List.mem_append_right _ (List.mem_of_getElem? (i := 594) (by decide +kernel)), by decide +kernel⟩) (List.mem_filter.mpr ⟨List.mem_append_left _ (List.mem_of_getElem? (i := 22) (by decide +kernel)), by decide +kernel⟩) hM hdd rfl hst hd (fun v τ h => by obtain ⟨rfl, h⟩ := h; exact kk τ h)
end XW
end
section
/-! numbers and bits -/
def xb_t (x : Int64) (j : Nat) : Bool := x.toBitVec.getLsbD j
def xb_b (t : Int32) : Int64 := (1 : Int64) <<< (t.toInt64 &&& 63)
theorem xb_or (x y : Int64) (j : Nat) : xb_t (x ||| y) j = (xb_t x j || xb_t y j) := by simp [xb_t, Int64.toBitVec_or]
theorem xb_and (x y : Int64) (j : Nat) : xb_t (x &&& y) j = (xb_t x j && xb_t y j) := by simp [xb_t, Int64.toBitVec_and]
theorem xb_m1 : ∀ j, j < 64 → xb_t (-1) j = true := by decide +kernel
theorem xb_not (x : Int64) {j : Nat} (h : j < 64) : xb_t (x ^^^ (-1)) j = !xb_t x j := by
  have h1 : xb_t (x ^^^ (-1)) j = (xb_t x j ^^ xb_t (-1) j) := by
    show (x ^^^ (-1)).toBitVec.getLsbD j = _
    rw [Int64.toBitVec_xor, BitVec.getLsbD_xor]
    rfl
  rw [h1, xb_m1 j h]
  simp
theorem xb_bit : ∀ j, j < 64 → ∀ i, i < 64 → xb_t (xb_b (nI j)) i = decide (i = j) := by decide +kernel
theorem xb_zero (j : Nat) : xb_t 0 j = false := by simp [xb_t]
theorem xb_cmp0 (x : Int64) : lg_cmp x 0 = 0 ↔ x = 0 := by
  unfold lg_cmp
  constructor
  · intro h
    split at h
    · exact absurd h (by decide)
    · split at h
      · assumption
      · exact absurd h (by decide)
  · intro h
    rw [h]
    decide
theorem xb_test {x : Int64} {j : Nat} (hj : j < 64) : lg_cmp (x &&& xb_b (nI j)) 0 = 0 ↔ xb_t x j = false := by
  rw [xb_cmp0]
  constructor
  · intro h
    have h2 : xb_t (x &&& xb_b (nI j)) j = xb_t 0 j := by rw [h]
    rw [xb_and, xb_bit j hj j hj, xb_zero] at h2
    simpa using h2
  · intro h
    apply Int64.toBitVec_inj.mp
    apply BitVec.eq_of_getLsbD_eq
    intro i hi
    have h3 : xb_t (x &&& xb_b (nI j)) i = false := by
      rw [xb_and, xb_bit j hj i hi]
      by_cases e : i = j
      · subst e; simp [h]
      · simp [e]
    show xb_t _ i = xb_t 0 i
    rw [h3, xb_zero]
/-! THE PURE MODEL: one picture for both sides -/
/-- a unit in a play: points, tile, order, aim, patience, path -/
abbrev am_U : Type := Nat × Nat × Nat × Nat × Nat × List Nat
abbrev am_P : Type := Nat → am_U
abbrev am_pts (x : am_U) : Nat := x.1
abbrev am_til (x : am_U) : Nat := x.2.1
abbrev am_ord (x : am_U) : Nat := x.2.2.1
abbrev am_aim (x : am_U) : Nat := x.2.2.2.1
abbrev am_pat (x : am_U) : Nat := x.2.2.2.2.1
abbrev am_pth (x : am_U) : List Nat := x.2.2.2.2.2
def am_set {α : Type} (f : Nat → α) (k : Nat) (v : α) : Nat → α := fun j => if j = k then v else f j
/-- is a tile taken by one of the first n -/
def am_taken (P : am_P) (t : Nat) : Nat → Bool
  | 0 => false
  | u + 1 => am_taken P t u || (decide (0 < am_pts (P u)) && decide (am_til (P u) = t))
def am_beside (t d : Nat) : Option Nat :=
  if d = 0 then (if 8 ≤ t then some (t - 8) else none)
  else if d = 1 then (if t % 8 < 7 then some (t + 1) else none)
  else if d = 2 then (if t < 56 then some (t + 8) else none)
  else (if 0 < t % 8 then some (t - 1) else none)
def am_dif (a b : Nat) : Nat := (a - b) + (b - a)
def am_dist (a b : Nat) : Nat := am_dif (a % 8) (b % 8) + am_dif (a / 8) (b / 8)
/-- a search: the row of tiles met, how many, where each was met from, in how many steps -/
abbrev am_B : Type := (Nat → Nat) × Nat × (Nat → Option Nat) × (Nat → Nat)
def am_try (free : Nat → Bool) (x d : Nat) (s : am_B) : am_B := match am_beside x d with
  | none => s
  | some t => if s.2.2.1 t = none ∧ free t = true then (am_set s.1 s.2.1 t, s.2.1 + 1, am_set s.2.2.1 t (some x), am_set s.2.2.2 t (s.2.2.2 x + 1)) else s
def am_exp (free : Nat → Bool) (x : Nat) (s : am_B) : Nat → am_B
  | 0 => s
  | d + 1 => am_try free x d (am_exp free x s d)
def am_bfs (free : Nat → Bool) (b : Nat) : Nat → Nat → am_B → am_B
  | 0, _, s => s
  | f + 1, k, s => if k < s.2.1 ∧ s.2.2.1 b = none then am_bfs free b f (k + 1) (am_exp free (s.1 k) s 4) else s
def am_ini (a : Nat) : am_B := (fun _ => a, 1, fun t => if t = a then some a else none, fun _ => 0)
def am_chain (fr : Nat → Option Nat) : Nat → Nat → List Nat
  | 0, _ => []
  | n + 1, t => am_chain fr n ((fr t).getD 0) ++ [t]
def am_end (free : Nat → Bool) (a b : Nat) : am_B := am_bfs free b 64 0 (am_ini a)
def am_find (free : Nat → Bool) (a b : Nat) : List Nat := if (am_end free a b).2.2.1 b = none then [] else am_chain (am_end free a b).2.2.1 ((am_end free a b).2.2.2 b) b
/-- what is free for a search: no wall; and, where the taken are shunned, not taken, but the goal -/
def am_free (W : Nat → Bool) (avoid : Nat → Bool) (b t : Nat) : Bool := !W t && (decide (t = b) || !avoid t)
def am_drop (x : am_U) : am_U := (am_pts x, am_til x, 0, 0, am_pat x, am_pth x)
/-- one step, or its being held up -/
def am_step (W : Nat → Bool) (n : Nat) (P : am_P) (x : am_U) (goal : Nat) : am_U := match am_pth x with
  | [] => am_drop x
  | t :: r => if am_taken P t n = false then (if am_ord x = 1 ∧ t = goal then (am_pts x, t, 0, 0, 0, r) else (am_pts x, t, am_ord x, am_aim x, 0, r))
      else if am_pat x + 1 < 3 then (am_pts x, am_til x, am_ord x, am_aim x, am_pat x + 1, am_pth x)
      else match am_find (am_free W (fun t => am_taken P t n) goal) (am_til x) goal with
        | [] => (am_pts x, am_til x, am_ord x, am_aim x, 0, am_pth x)
        | q :: z => (am_pts x, am_til x, am_ord x, am_aim x, 0, q :: z)
def am_walk (W : Nat → Bool) (n : Nat) (P : am_P) (x : am_U) (goal : Nat) : am_U :=
  if (am_pth x).getLast? = some goal then am_step W n P x goal
  else am_step W n P (am_pts x, am_til x, am_ord x, am_aim x, am_pat x, am_find (am_free W (fun _ => false) goal) (am_til x) goal) goal
def am_go (W : Nat → Bool) (n : Nat) (P : am_P) (x : am_U) : am_U :=
  if am_ord x = 2 then
    (if am_pts (P (am_aim x)) = 0 then am_drop x
     else if am_dist (am_til x) (am_til (P (am_aim x))) = 1 then (am_pts x, am_til x, am_ord x, am_aim x, am_pat x, [])
     else am_walk W n P x (am_til (P (am_aim x))))
  else (if am_aim x = am_til x ∨ W (am_aim x) = true then am_drop x else am_walk W n P x (am_aim x))
def am_moves (W : Nat → Bool) (n : Nat) (P : am_P) : Nat → am_P
  | 0 => P
  | u + 1 => let Q := am_moves W n P u
    if am_ord (Q u) = 0 then Q else am_set Q u (am_go W n Q (Q u))
/-- entries: tick, unit, kind, aim -/
abbrev am_L : Type := Nat → Int32 × Nat × Nat × Nat
def am_obey (L : am_L) (t : Int32) (P : am_P) : Nat → am_P
  | 0 => P
  | e + 1 => let Q := am_obey L t P e
    if (L e).1 = t ∧ 0 < am_pts (Q (L e).2.1) then am_set Q (L e).2.1 (am_pts (Q (L e).2.1), am_til (Q (L e).2.1), (L e).2.2.1, (L e).2.2.2, 0, []) else Q
def am_hits (P : am_P) (u : Nat) : Bool := decide (am_ord (P u) = 2) && decide (0 < am_pts (P (am_aim (P u)))) && decide (am_dist (am_til (P u)) (am_til (P (am_aim (P u)))) = 1)
def am_lost (P : am_P) : Nat → Nat → Nat
  | 0 => fun _ => 0
  | u + 1 => if am_hits P u = true then am_set (am_lost P u) (am_aim (P u)) (am_lost P u (am_aim (P u)) + 3) else am_lost P u
def am_hurt (x : am_U) (l : Nat) : am_U := if am_pts x ≤ l then (0, am_til x, 0, 0, 0, []) else (am_pts x - l, am_til x, am_ord x, am_aim x, am_pat x, am_pth x)
def am_rest (x : am_U) (l : Nat) : am_U := if 0 < am_pts x ∧ am_ord x = 0 ∧ l = 0 ∧ am_pts x < 20 then (am_pts x + 1, am_til x, am_ord x, am_aim x, am_pat x, am_pth x) else x
def am_sum (P : am_P) : Nat → Int32
  | 0 => nI 17
  | u + 1 => nI 31 * (nI 31 * am_sum P u + nI 64 * nI (am_pts (P u)) + (if am_pts (P u) = 0 then nI 0 else nI (am_til (P u)))) + nI 8 * nI (am_pat (P u)) + nI (am_ord (P u))
/-- the blows, and the rest at each fourth tick -/
def am_blow (n : Nat) (P : am_P) : am_P := fun u => if u < n then am_hurt (P u) (am_lost P n u) else P u
def am_calm (t n : Nat) (P0 P : am_P) : am_P := fun u => if u < n ∧ t % 4 = 3 then am_rest (P u) (am_lost P0 n u) else P u
/-- one tick -/
def am_tick (W : Nat → Bool) (n cnt : Nat) (L : am_L) (t : Nat) (P : am_P) : am_P :=
  let Q := am_moves W n (am_obey L (nI t) P cnt) n
  am_calm t n Q (am_blow n Q)
def am_num (W : Nat → Bool) (n cnt : Nat) (L : am_L) (t : Nat) (P : am_P) : Int32 := am_sum (am_tick W n cnt L t P) n
/-! the search: what holds of it at every point -/
theorem am_set_s {α : Type} {f : Nat → α} {k : Nat} {v : α} : am_set f k v k = v := by simp [am_set]
theorem am_set_n {α : Type} {f : Nat → α} {k j : Nat} {v : α} (h : j ≠ k) : am_set f k v j = f j := by simp [am_set, h]
def am_cnt (fr : Nat → Option Nat) : Nat → Nat
  | 0 => 0
  | k + 1 => am_cnt fr k + (if (fr k).isSome = true then 1 else 0)
theorem am_cnt_le (fr : Nat → Option Nat) : ∀ k, am_cnt fr k ≤ k
  | 0 => Nat.le_refl _
  | k + 1 => by
    have := am_cnt_le fr k
    simp only [am_cnt]
    split <;> omega
theorem am_cnt_lt {fr : Nat → Option Nat} {t : Nat} (hn : fr t = none) : ∀ k, t < k → am_cnt fr k < k
  | 0, h => absurd h (Nat.not_lt_zero _)
  | k + 1, h => by
    by_cases hk : t = k
    · subst hk
      have := am_cnt_le fr t
      simp only [am_cnt, hn]
      simp
      omega
    · have := am_cnt_lt hn k (by omega)
      simp only [am_cnt]
      split <;> omega
theorem am_cnt_cong {fr gr : Nat → Option Nat} : ∀ k, (∀ i, i < k → fr i = gr i) → am_cnt fr k = am_cnt gr k
  | 0, _ => rfl
  | k + 1, h => by
    simp only [am_cnt]
    rw [am_cnt_cong k (fun i hi => h i (by omega)), h k (by omega)]
theorem am_cnt_set {fr : Nat → Option Nat} {t x : Nat} (hn : fr t = none) : ∀ k, t < k → am_cnt (am_set fr t (some x)) k = am_cnt fr k + 1
  | 0, h => absurd h (Nat.not_lt_zero _)
  | k + 1, h => by
    simp only [am_cnt]
    by_cases hk : t = k
    · subst hk
      rw [am_cnt_cong t (gr := fr) (fun i hi => am_set_n (by omega)), am_set_s, hn]
      simp
    · rw [am_cnt_set hn k (by omega), am_set_n (Ne.symm hk)]
      omega
theorem am_beside_lt {x d t : Nat} (hx : x < 64) (h : am_beside x d = some t) : t < 64 := by
  unfold am_beside at h
  repeat' split at h
  all_goals first | (cases h; omega) | cases h
def am_inv (a : Nat) (s : am_B) : Prop :=
  s.2.1 = am_cnt s.2.2.1 64 ∧ s.2.2.1 a ≠ none ∧ (∀ i, i < s.2.1 → s.1 i < 64 ∧ s.2.2.1 (s.1 i) ≠ none) ∧
  ∀ t x, s.2.2.1 t = some x → t < 64 ∧ x < 64 ∧ s.2.2.1 x ≠ none ∧ s.2.2.2 t < s.2.1 ∧ ((t = a ∧ x = a ∧ s.2.2.2 t = 0) ∨ (t ≠ a ∧ s.2.2.2 t = s.2.2.2 x + 1))
theorem am_inv_met {a : Nat} {s : am_B} (h : am_inv a s) : s.2.1 ≤ 64 := by rw [h.1]; exact am_cnt_le _ _
theorem am_inv_room {a : Nat} {s : am_B} (h : am_inv a s) {t : Nat} (ht : t < 64) (hn : s.2.2.1 t = none) : s.2.1 < 64 := by rw [h.1]; exact am_cnt_lt hn _ ht
theorem am_inv_ini {a : Nat} (ha : a < 64) : am_inv a (am_ini a) := by
  refine ⟨?_, ?_, ?_, ?_⟩
  · have : ∀ a, a < 64 → 1 = am_cnt (fun t => if t = a then some a else none) 64 := by decide +kernel
    exact this a ha
  · simp [am_ini]
  · intro i _
    simp [am_ini, ha]
  · intro t x h
    simp only [am_ini] at h ⊢
    split at h
    · cases h
      rename_i ht
      subst ht
      simp [ha]
    · cases h
theorem am_inv_new {a : Nat} {s : am_B} (h : am_inv a s) {t x : Nat} (ht : t < 64) (hn : s.2.2.1 t = none) (hx : s.2.2.1 x ≠ none) : am_inv a (am_set s.1 s.2.1 t, s.2.1 + 1, am_set s.2.2.1 t (some x), am_set s.2.2.2 t (s.2.2.2 x + 1)) := by
  obtain ⟨h1, h2, h3, h4⟩ := h
  have hne : ∀ z, s.2.2.1 z ≠ none → z ≠ t := fun z hz e => hz (by rw [e]; exact hn)
  have hxt := hne x hx
  obtain ⟨y, hy⟩ := Option.ne_none_iff_exists'.mp hx
  obtain ⟨x1, x2, x3, x4, x5⟩ := h4 x y hy
  refine ⟨?_, ?_, ?_, ?_⟩
  · show s.2.1 + 1 = am_cnt (am_set s.2.2.1 t (some x)) 64
    rw [am_cnt_set hn 64 ht, ← h1]
  · show am_set s.2.2.1 t (some x) a ≠ none
    rw [am_set_n (hne a h2)]
    exact h2
  · intro i hi
    show am_set s.1 s.2.1 t i < 64 ∧ am_set s.2.2.1 t (some x) (am_set s.1 s.2.1 t i) ≠ none
    by_cases hi2 : i = s.2.1
    · subst hi2
      rw [am_set_s, am_set_s]
      exact ⟨ht, by simp⟩
    · rw [am_set_n hi2]
      have hi3 : i < s.2.1 := by
        have : i < s.2.1 + 1 := hi
        omega
      obtain ⟨g1, g2⟩ := h3 i hi3
      exact ⟨g1, by rw [am_set_n (hne _ g2)]; exact g2⟩
  · intro t' x' ht'
    show t' < 64 ∧ x' < 64 ∧ am_set s.2.2.1 t (some x) x' ≠ none ∧ am_set s.2.2.2 t (s.2.2.2 x + 1) t' < s.2.1 + 1 ∧ ((t' = a ∧ x' = a ∧ am_set s.2.2.2 t (s.2.2.2 x + 1) t' = 0) ∨ (t' ≠ a ∧ am_set s.2.2.2 t (s.2.2.2 x + 1) t' = am_set s.2.2.2 t (s.2.2.2 x + 1) x' + 1))
    have ht' : am_set s.2.2.1 t (some x) t' = some x' := ht'
    by_cases e : t' = t
    · subst e
      rw [am_set_s] at ht'
      cases ht'
      rw [am_set_s, am_set_n hxt, am_set_n hxt]
      refine ⟨ht, x1, hx, by omega, Or.inr ⟨fun e => ?_, rfl⟩⟩
      exact (hne a h2) e.symm
    · rw [am_set_n e] at ht'
      obtain ⟨g1, g2, g3, g4, g5⟩ := h4 t' x' ht'
      rw [am_set_n e, am_set_n (hne x' g3), am_set_n (hne x' g3)]
      exact ⟨g1, g2, g3, by omega, g5⟩
theorem am_inv_try {a : Nat} {free : Nat → Bool} {s : am_B} (h : am_inv a s) {x d : Nat} (hx : x < 64) (hn : s.2.2.1 x ≠ none) : am_inv a (am_try free x d s) ∧ (am_try free x d s).2.2.1 x ≠ none := by
  unfold am_try
  cases hb : am_beside x d with
  | none => exact ⟨h, hn⟩
  | some t =>
    simp only []
    split
    · rename_i hc
      refine ⟨am_inv_new h (am_beside_lt hx hb) hc.1 hn, ?_⟩
      show am_set s.2.2.1 t (some x) x ≠ none
      rw [am_set_n (fun e => hn (by rw [e]; exact hc.1))]
      exact hn
    · exact ⟨h, hn⟩
theorem am_inv_exp {a : Nat} {free : Nat → Bool} {s : am_B} (h : am_inv a s) {x : Nat} (hx : x < 64) (hn : s.2.2.1 x ≠ none) : ∀ d, am_inv a (am_exp free x s d) ∧ (am_exp free x s d).2.2.1 x ≠ none
  | 0 => ⟨h, hn⟩
  | d + 1 => by
    obtain ⟨g1, g2⟩ := am_inv_exp h hx hn d
    exact am_inv_try g1 hx g2
theorem am_inv_bfs {a b : Nat} {free : Nat → Bool} : ∀ (f k : Nat) (s : am_B), am_inv a s → am_inv a (am_bfs free b f k s)
  | 0, _, _, h => h
  | f + 1, k, s, h => by
    simp only [am_bfs]
    split
    · rename_i hc
      obtain ⟨g1, g2⟩ := h.2.2.1 k hc.1
      exact am_inv_bfs f (k + 1) _ (am_inv_exp h g1 g2 4).1
    · exact h
theorem am_inv_end {a b : Nat} {free : Nat → Bool} (ha : a < 64) : am_inv a (am_end free a b) := am_inv_bfs _ _ _ (am_inv_ini ha)
theorem am_chain_len (fr : Nat → Option Nat) : ∀ n t, (am_chain fr n t).length = n
  | 0, _ => rfl
  | n + 1, t => by simp [am_chain, am_chain_len fr n]
theorem am_chain_lt {a : Nat} {s : am_B} (h : am_inv a s) : ∀ n t, s.2.2.1 t ≠ none → s.2.2.2 t = n → ∀ q ∈ am_chain s.2.2.1 n t, q < 64
  | 0, _, _, _, q, hq => by simp [am_chain] at hq
  | n + 1, t, ht, hn, q, hq => by
    obtain ⟨x, hx⟩ := Option.ne_none_iff_exists'.mp ht
    obtain ⟨g1, g2, g3, g4, g5⟩ := h.2.2.2 t x hx
    simp only [am_chain, List.mem_append, List.mem_singleton] at hq
    rcases hq with hq | rfl
    · rw [hx] at hq
      refine am_chain_lt h n x g3 ?_ q hq
      rcases g5 with ⟨-, -, g6⟩ | ⟨-, g6⟩ <;> omega
    · exact g1
theorem am_find_ok {a b : Nat} {free : Nat → Bool} (ha : a < 64) : (am_find free a b).length < 64 ∧ ∀ q ∈ am_find free a b, q < 64 := by
  have h := am_inv_end (free := free) (b := b) ha
  unfold am_find
  split
  · simp
  · rename_i hb
    obtain ⟨x, hx⟩ := Option.ne_none_iff_exists'.mp hb
    have := h.2.2.2 b x hx
    have := am_inv_met h
    refine ⟨by rw [am_chain_len]; omega, am_chain_lt h _ b hb rfl⟩
/-! what a unit's two rows say -/
def xc_RU (r rt : Nat → Int32) (x : am_U) : Prop :=
  r 3 = nI (am_pts x) ∧ (0 < am_pts x → r 2 = nI (am_til x)) ∧ (am_pts x = 0 → r 2 = -1) ∧ r 4 = nI (am_ord x) ∧ r 5 = nI (am_aim x) ∧ r 6 = nI (am_pat x) ∧
  ∃ f : Nat, r 9 = nI f ∧ r 10 = nI (f + (am_pth x).length) ∧ f + (am_pth x).length ≤ 64 ∧ ∀ i (h : i < (am_pth x).length), rt (f + i) = nI ((am_pth x)[i])
abbrev xc_at (σ : xk_St) (k : Nat) (x : am_U) : Prop := xc_RU (σ.1 k) (σ.1 (k + 16)) x
/-- a unit that can be: n units stand on the field -/
def am_ok (n : Nat) (x : am_U) : Prop :=
  am_pts x ≤ 20 ∧ am_til x < 64 ∧ am_ord x ≤ 2 ∧ am_aim x < 64 ∧ (am_ord x = 2 → am_aim x < n) ∧ am_pat x < 3 ∧ (am_pth x).length ≤ 64 ∧ (∀ t ∈ am_pth x, t < 64) ∧
  (am_pts x = 0 → am_ord x = 0 ∧ am_aim x = 0 ∧ am_pat x = 0 ∧ am_pth x = [])
/-- but for a unit's own row nothing has changed, and not its side and start -/
def xc_own (k : Nat) (σ τ : xk_St) : Prop := τ.2 = σ.2 ∧ (∀ j, j ≠ k → τ.1 j = σ.1 j) ∧ τ.1 k 0 = σ.1 k 0 ∧ τ.1 k 1 = σ.1 k 1
/-- but for a play's own rows, and those of the search, nothing has changed, and no unit's side and start -/
def xc_fr (p : Nat) (σ τ : xk_St) : Prop := τ.2 = σ.2 ∧
  (∀ k, ¬ (k = 2 ∨ k = 3 ∨ k = 4 ∨ k = 12 + 3 * p ∨ (17 + 8 * p ≤ k ∧ k < 25 + 8 * p) ∨ (33 + 8 * p ≤ k ∧ k < 41 + 8 * p)) → τ.1 k = σ.1 k) ∧
  ∀ k, 17 + 8 * p ≤ k → k < 25 + 8 * p → τ.1 k 0 = σ.1 k 0 ∧ τ.1 k 1 = σ.1 k 1
theorem xc_fr.rf {p : Nat} {σ : xk_St} : xc_fr p σ σ := ⟨rfl, fun _ _ => rfl, fun _ _ _ => ⟨rfl, rfl⟩⟩
theorem xc_fr.tr {p : Nat} {σ τ υ : xk_St} (h : xc_fr p σ τ) (g : xc_fr p τ υ) : xc_fr p σ υ :=
  ⟨g.1.trans h.1, fun k hk => (g.2.1 k hk).trans (h.2.1 k hk), fun k h1 h2 => ⟨((g.2.2 k h1 h2).1).trans (h.2.2 k h1 h2).1, ((g.2.2 k h1 h2).2).trans (h.2.2 k h1 h2).2⟩⟩
theorem xc_own.fr {p u : Nat} {σ τ : xk_St} (hu : u < 8) (h : xc_own (17 + 8 * p + u) σ τ) : xc_fr p σ τ :=
  ⟨h.1, fun k hk => h.2.1 k (by omega), fun k h1 h2 => by
    by_cases e : k = 17 + 8 * p + u
    · subst e; exact h.2.2
    · rw [h.2.1 k e]; exact ⟨rfl, rfl⟩⟩
/-- a play: how many units, and each -/
def xc_pl (p n : Nat) (P : am_P) (σ : xk_St) : Prop := σ.1 (10 + 3 * p) 3 = nI n ∧ ∀ u, u < n → xc_at σ (17 + 8 * p + u) (P u)
/-! the model keeps to what can be -/
def am_okP (n : Nat) (P : am_P) : Prop := ∀ u, u < n → am_ok n (P u)
theorem am_ok_drop {n : Nat} {x : am_U} (h : am_ok n x) : am_ok n (am_drop x) := by
  obtain ⟨h1, h2, h3, h4, h5, h6, h7, h8, h9⟩ := h
  exact ⟨h1, h2, Nat.zero_le _, (by decide : 0 < 64), fun e => absurd e (show ¬ (0 : Nat) = 2 by decide), h6, h7, h8, fun e => ⟨rfl, rfl, (h9 e).2.2.1, (h9 e).2.2.2⟩⟩
theorem am_ok_step {W : Nat → Bool} {n : Nat} {P : am_P} {x : am_U} {goal : Nat} (h : am_ok n x) (ha : 0 < am_pts x) : am_ok n (am_step W n P x goal) := by
  have h0 := h
  obtain ⟨h1, h2, h3, h4, h5, h6, h7, h8, h9⟩ := h
  have ha' : ¬ am_pts x = 0 := by omega
  unfold am_step
  split
  · exact am_ok_drop h0
  · rename_i t r hp
    have ht : t < 64 := h8 t (by rw [hp]; exact List.mem_cons_self)
    have hr : ∀ q ∈ r, q < 64 := fun q hq => h8 q (by rw [hp]; exact List.mem_cons_of_mem _ hq)
    have hl : r.length ≤ 64 := by
      have := h7
      rw [hp] at this
      simp at this
      omega
    split
    · split
      · exact ⟨h1, ht, Nat.zero_le _, (by decide : 0 < 64), fun e => absurd e (show ¬ (0 : Nat) = 2 by decide), (by decide : 0 < 3), hl, hr, fun e => absurd e ha'⟩
      · exact ⟨h1, ht, h3, h4, h5, (by decide : 0 < 3), hl, hr, fun e => absurd e ha'⟩
    · split
      · rename_i hq
        exact ⟨h1, h2, h3, h4, h5, hq, h7, h8, fun e => absurd e ha'⟩
      · have hf := am_find_ok (free := am_free W (fun t => am_taken P t n) goal) (b := goal) h2
        split
        · exact ⟨h1, h2, h3, h4, h5, (by decide : 0 < 3), h7, h8, fun e => absurd e ha'⟩
        · rename_i q z hz
          rw [hz] at hf
          exact ⟨h1, h2, h3, h4, h5, (by decide : 0 < 3), Nat.le_of_lt hf.1, hf.2, fun e => absurd e ha'⟩
theorem am_ok_walk {W : Nat → Bool} {n : Nat} {P : am_P} {x : am_U} {goal : Nat} (h : am_ok n x) (ha : 0 < am_pts x) : am_ok n (am_walk W n P x goal) := by
  unfold am_walk
  split
  · exact am_ok_step h ha
  · refine am_ok_step ?_ ha
    obtain ⟨h1, h2, h3, h4, h5, h6, h7, h8, h9⟩ := h
    have hf := am_find_ok (free := am_free W (fun _ => false) goal) (b := goal) h2
    exact ⟨h1, h2, h3, h4, h5, h6, Nat.le_of_lt hf.1, hf.2, fun e => absurd e (show ¬ am_pts x = 0 by omega)⟩
theorem am_ok_go {W : Nat → Bool} {n : Nat} {P : am_P} {x : am_U} (h : am_ok n x) (ha : 0 < am_pts x) : am_ok n (am_go W n P x) := by
  have h0 := h
  obtain ⟨h1, h2, h3, h4, h5, h6, h7, h8, h9⟩ := h
  unfold am_go
  split
  · split
    · exact am_ok_drop h0
    · split
      · exact ⟨h1, h2, h3, h4, h5, h6, Nat.zero_le _, fun t ht => absurd ht List.not_mem_nil, fun e => absurd e (show ¬ am_pts x = 0 by omega)⟩
      · exact am_ok_walk h0 ha
  · split
    · exact am_ok_drop h0
    · exact am_ok_walk h0 ha
theorem am_ok_alive {n : Nat} {x : am_U} (h : am_ok n x) (ho : am_ord x ≠ 0) : 0 < am_pts x := by
  obtain ⟨h1, h2, h3, h4, h5, h6, h7, h8, h9⟩ := h
  rcases Nat.eq_zero_or_pos (am_pts x) with e | e
  · exact absurd (h9 e).1 ho
  · exact e
theorem am_okP_set {n u : Nat} {P : am_P} {x : am_U} (h : am_okP n P) (hx : am_ok n x) : am_okP n (am_set P u x) := by
  intro v hv
  by_cases e : v = u
  · subst e; rw [am_set_s]; exact hx
  · rw [am_set_n e]; exact h v hv
theorem am_okP_moves {W : Nat → Bool} {n : Nat} {P : am_P} (h : am_okP n P) : ∀ u, u ≤ n → am_okP n (am_moves W n P u)
  | 0, _ => h
  | u + 1, hu => by
    have ih := am_okP_moves (W := W) h u (by omega)
    simp only [am_moves]
    split
    · exact ih
    · rename_i ho
      exact am_okP_set ih (am_ok_go (ih u (by omega)) (am_ok_alive (ih u (by omega)) ho))
/-- a log that can be -/
def am_okL (n cnt : Nat) (L : am_L) : Prop := cnt ≤ 24 ∧ ∀ e, e < cnt → (L e).2.1 < n ∧ (L e).2.2.1 ≤ 2 ∧ (L e).2.2.2 < 64 ∧ ((L e).2.2.1 = 2 → (L e).2.2.2 < n)
theorem am_okP_obey {n cnt : Nat} {L : am_L} {t : Int32} {P : am_P} (h : am_okP n P) (hL : am_okL n cnt L) : ∀ e, e ≤ cnt → am_okP n (am_obey L t P e)
  | 0, _ => h
  | e + 1, he => by
    have ih := am_okP_obey (t := t) h hL e (by omega)
    simp only [am_obey]
    split
    · rename_i hc
      obtain ⟨g1, g2, g3, g4⟩ := hL.2 e (by omega)
      obtain ⟨h1, h2, -⟩ := ih (L e).2.1 g1
      exact am_okP_set ih ⟨h1, h2, g2, g3, g4, (by decide : 0 < 3), Nat.zero_le _, fun t ht => absurd ht List.not_mem_nil, fun e' => absurd e' (Nat.ne_of_gt hc.2)⟩
    · exact ih
theorem am_ok_hurt {n l : Nat} {x : am_U} (h : am_ok n x) : am_ok n (am_hurt x l) := by
  obtain ⟨h1, h2, h3, h4, h5, h6, h7, h8, h9⟩ := h
  unfold am_hurt
  split
  · exact ⟨Nat.zero_le _, h2, Nat.zero_le _, (by decide : 0 < 64), fun e => absurd e (show ¬ (0 : Nat) = 2 by decide), (by decide : 0 < 3), Nat.zero_le _, fun t ht => absurd ht List.not_mem_nil, fun _ => ⟨rfl, rfl, rfl, rfl⟩⟩
  · rename_i hl
    exact ⟨Nat.le_trans (Nat.sub_le _ _) h1, h2, h3, h4, h5, h6, h7, h8, fun e => absurd e (by show ¬ am_pts x - l = 0; omega)⟩
theorem am_ok_rest {n l : Nat} {x : am_U} (h : am_ok n x) : am_ok n (am_rest x l) := by
  have h0 := h
  obtain ⟨h1, h2, h3, h4, h5, h6, h7, h8, h9⟩ := h
  unfold am_rest
  split
  · rename_i hc
    exact ⟨by show am_pts x + 1 ≤ 20; omega, h2, h3, h4, h5, h6, h7, h8, fun e => absurd e (Nat.succ_ne_zero _)⟩
  · exact h0
theorem am_okP_tick {W : Nat → Bool} {n cnt t : Nat} {L : am_L} {P : am_P} (h : am_okP n P) (hL : am_okL n cnt L) : am_okP n (am_tick W n cnt L t P) := by
  have h1 := am_okP_moves (W := W) (am_okP_obey (t := nI t) h hL cnt (Nat.le_refl _)) n (Nat.le_refl _)
  intro u hu
  have h2 : am_ok n (am_blow n (am_moves W n (am_obey L (nI t) P cnt) n) u) := by
    unfold am_blow
    rw [if_pos hu]
    exact am_ok_hurt (h1 u hu)
  unfold am_tick am_calm
  split
  · exact am_ok_rest h2
  · exact h2
end
section
/-! members of the JDK that are called: abs, max, arraycopy, fill -/
section XJ
variable {G : xk_D} {K : xk_K} {σ : xk_St} {cc : ByteArray} {nL d pc pc' : Nat} {ret : Option FieldType} {P : Option Value → xk_St → Prop} {lv : List (Nat × Value)} {st : List Value}
theorem xj_mem {v : Cond} (i : Nat) (h : tables_1[i]? = some v) (g : goodWord v = true) : v ∈ xt_T := List.mem_filter.mpr ⟨List.mem_append_right _ (List.mem_of_getElem? h), g⟩
theorem xj_abs {w : xk_w} {own : String} {idx : Nat} {x : Int32} (hc : xk_H K w cc nL own d ret P) (hl : Cond.methodLink own idx Lib.Math.abs.name ∈ xk_wT w) (hs : Cond.static Lib.Math.abs.name ∈ xk_wT w) (hi : Cond.initialized "java/lang/Math" ∈ xk_wT w) (hk : Cond.code Lib.Math.abs.name Lib.Math.abs.code 1 (some .int) ∈ xk_wT w) (hd : xk_d cc pc (.invokestatic idx) 3 pc') (h1 : 1 ≤ d) (hst : (st.map fun v => v.category).sum ≤ 8) (kk : xk_X K (xk_vw w) σ pc' lv (.int (if 0 ≤ x then x else 0 - x) :: st)) : xk_X K (xk_vw w) σ pc lv (.int x :: st) := by
  obtain ⟨p, l, e, R, s, m, args, below, meth, c, A, cells, slots, Q⟩ := K
  obtain ⟨hd, rfl⟩ := hd
  intro H locs ls hP hD hS h
  have hw := hc.1.2.2.2.2
  have hr := hc.2.2.1
  obtain ⟨hc0, hs0⟩ := hc.2.2.2.2.1
  exact va_mabs hc.1.1 hc.1.2.1 h.1.symm hc.1.2.2.2.1 (hw _ hl) (hw _ hs) (hw _ hi) (hw _ hk) (by omega) (by omega) (by omega) (by omega) hd (kk H locs ls hP hD hS h)
theorem xj_max {w : xk_w} {own : String} {idx : Nat} {x y : Int32} (hc : xk_H K w cc nL own d ret P) (hl : Cond.methodLink own idx Lib.Math.max.name ∈ xk_wT w) (hs : Cond.static Lib.Math.max.name ∈ xk_wT w) (hi : Cond.initialized "java/lang/Math" ∈ xk_wT w) (hk : Cond.code Lib.Math.max.name Lib.Math.max.code 2 (some .int) ∈ xk_wT w) (hd : xk_d cc pc (.invokestatic idx) 3 pc') (h1 : 1 ≤ d) (hst : (st.map fun v => v.category).sum ≤ 8) (kk : xk_X K (xk_vw w) σ pc' lv (.int (if x < y then y else x) :: st)) : xk_X K (xk_vw w) σ pc lv (.int y :: .int x :: st) := by
  obtain ⟨p, l, e, R, s, m, args, below, meth, c, A, cells, slots, Q⟩ := K
  obtain ⟨hd, rfl⟩ := hd
  intro H locs ls hP hD hS h
  have hw := hc.1.2.2.2.2
  have hr := hc.2.2.1
  obtain ⟨hc0, hs0⟩ := hc.2.2.2.2.1
  exact va_mmax hc.1.1 hc.1.2.1 h.1.symm hc.1.2.2.2.1 (hw _ hl) (hw _ hs) (hw _ hi) (hw _ hk) (by omega) (by omega) (by omega) (by omega) hd (kk H locs ls hP hD hS h)
theorem xj_G_41 {x : Int32} (hc : xk_H K (xc G) cc nL RG d ret P) (hd : xk_d cc pc (.invokestatic 41) 3 pc') (kk : xk_X K (xk_vw (xc G)) σ pc' lv (.int (if 0 ≤ x then x else 0 - x) :: st)) (h1 : 1 ≤ d := by decide) (hst : (st.map fun v => v.category).sum ≤ 8 := by exact Nat.le_of_ble_eq_true rfl) : xk_X K (xk_vw (xc G)) σ pc lv (.int x :: st) :=
  xj_abs hc (xj_mem 283 (by decide +kernel) (by decide +kernel)) (xj_mem 284 (by decide +kernel) (by decide +kernel)) (xj_mem 8 (by decide +kernel) (by decide +kernel)) (xj_mem 285 (by decide +kernel) (by decide +kernel)) hd h1 hst kk
theorem xj_U_51 {x y : Int32} (hc : xk_H K (xc G) cc nL RU d ret P) (hd : xk_d cc pc (.invokestatic 51) 3 pc') (kk : xk_X K (xk_vw (xc G)) σ pc' lv (.int (if x < y then y else x) :: st)) (h1 : 1 ≤ d := by decide) (hst : (st.map fun v => v.category).sum ≤ 8 := by exact Nat.le_of_ble_eq_true rfl) : xk_X K (xk_vw (xc G)) σ pc lv (.int y :: .int x :: st) :=
  xj_max hc (xj_mem 344 (by decide +kernel) (by decide +kernel)) (xj_mem 345 (by decide +kernel) (by decide +kernel)) (xj_mem 8 (by decide +kernel) (by decide +kernel)) (xj_mem 346 (by decide +kernel) (by decide +kernel)) hd h1 hst kk
theorem xj_dif {a b : Nat} (ha : a < 2 ^ 30) (hb : b < 2 ^ 30) : (if 0 ≤ nI a - nI b then nI a - nI b else 0 - (nI a - nI b)) = nI (am_dif a b) := by
  unfold am_dif
  by_cases h : b ≤ a
  · rw [pk_sub h, if_pos (nI_pos' (by omega))]
    congr 1
    omega
  · have h1 := pk_sneg hb (show a < b by omega)
    have h2 : ¬ 0 ≤ nI a - nI b := fun q => by
      rw [Int32.le_iff_toInt_le] at q
      rw [Int32.lt_iff_toInt_lt] at h1
      omega
    rw [if_neg h2]
    have h3 : 0 - (nI a - nI b) = nI b - nI a := by grind
    rw [h3, pk_sub (show a ≤ b by omega)]
    congr 1
    omega
theorem xj_lose {a l : Nat} (ha : a < 2 ^ 30) (hl : l < 2 ^ 30) : (if nI 0 < nI a - nI l then nI a - nI l else nI 0) = nI (a - l) := by
  by_cases h : l ≤ a
  · rw [pk_sub h]
    by_cases h2 : 0 < a - l
    · rw [if_pos (nI_lt h2 (by omega))]
    · rw [show a - l = 0 by omega, if_neg (nI_nlt (Nat.le_refl _) (by decide))]
  · have h1 := pk_sneg hl (show a < l by omega)
    have h2 : ¬ nI 0 < nI a - nI l := fun q => by
      rw [nI_0, Int32.lt_iff_toInt_lt] at q
      rw [Int32.lt_iff_toInt_lt] at h1
      omega
    rw [if_neg h2, show a - l = 0 by omega]
theorem xk_row_up {σ : xk_St} {k i : Nat} {f : Nat → Int32} {v : Int32} : xk_up (xk_row σ k f) k i v = xk_row σ k (fun j => if j = i then v else f j) := by
  unfold xk_up xk_row
  congr 1
  funext a b
  by_cases h : a = k
  · subst h; simp
  · simp [h]
theorem xk_row_id (σ : xk_St) (k : Nat) : xk_row σ k (σ.1 k) = σ := by
  unfold xk_row
  congr 1
  funext a
  by_cases h : a = k
  · subst h; simp
  · simp [h]
theorem xl_G_29 (hc : xk_H K (xc G) cc nL RG d ret P) (hd : xk_d cc pc (.ldc2_w 29) 3 pc') (kk : xk_X K (xk_vw (xc G)) σ pc' lv (.long (-1) :: st)) : xk_X K (xk_vw (xc G)) σ pc lv st := by
  obtain ⟨p, l, e, R, s, m, args, below, meth, c, A, cells, slots, Q⟩ := K
  obtain ⟨hd, rfl⟩ := hd
  intro H locs ls hP hD hS h
  exact lv_ldc2 hc.1.1 hc.1.2.1 hc.1.2.2.2.1 (hc.1.2.2.2.2 _ (xj_mem 190 (by decide +kernel) (by decide +kernel))) hd (kk H locs ls hP hD hS h)
theorem xj_L_32 {k n sp dp q : Nat} (hc : xk_H K (xc G) cc nL RL d ret P) (hsh : xc_S[k]? = some (.inl (0, n))) (h4 : sp + q ≤ n) (h5 : dp + q ≤ n) (hn : n < 2 ^ 31) (hd : xk_d cc pc (.invokestatic 32) 3 pc') (h1 : 1 ≤ d) (kk : xk_X K (xk_vw (xc G)) (xk_row σ k (va_cpy (σ.1 k) (σ.1 k) sp dp q)) pc' lv []) : xk_X K (xk_vw (xc G)) σ pc lv [.int (nI q), .int (nI dp), .ref (xk_wA (xc G) k), .int (nI sp), .ref (xk_wA (xc G) k)] := by
  obtain ⟨p, l, e, R, s, m, args, below, meth, c, A, cells, slots, Q⟩ := K
  obtain ⟨hd, rfl⟩ := hd
  intro H locs ls hP hD hS h
  have hw := hc.1.2.2.2.2
  have hr := hc.2.2.1
  have hk : (xk_row σ k (va_cpy (σ.1 k) (σ.1 k) sp dp q)).1 k = va_cpy (σ.1 k) (σ.1 k) sp dp q := by simp [xk_row]
  have e1 := xk_wl_set (shp := xc_S) (g := G.2) (σ := σ) (τ := xk_row σ k (va_cpy (σ.1 k) (σ.1 k) sp dp q)) (sh := .inl (0, n)) hsh (fun i h => xk_row_ne i h)
  simp only [xk_cell, xk_ac, hk] at e1
  have c1 : (nI sp).toNatClampNeg = sp := nI_clamp (by omega)
  have c2 : (nI dp).toNatClampNeg = dp := nI_clamp (by omega)
  have c3 : (nI q).toNatClampNeg = q := nI_clamp (by omega)
  refine va_copyi (D := G.1) (cl := xt_C) (ws := xk_ws (xc G) σ) (f := σ.1 k) (g := σ.1 k) (ty := .int) hc.1.1 hc.1.2.1 h.1.symm hc.1.2.2.2.1 (hw _ (xj_mem 251 (by decide +kernel) (by decide +kernel))) (hw _ (xj_mem 253 (by decide +kernel) (by decide +kernel))) (hw _ (xj_mem 252 (by decide +kernel) (by decide +kernel))) (hw _ (xj_mem 7 (by decide +kernel) (by decide +kernel))) (hc.2.1.k hsh) hP hD hS k k 0 0 (xk_wl_at hsh) (xk_wl_at hsh) rfl rfl rfl (nI_pos (by omega)) (nI_pos (by omega)) (nI_pos (by omega)) (by rw [c1, c3]; exact h4) (by rw [c2, c3]; exact h5) (fun _ _ => rfl) (by omega) ?_ hd (fun H1 locs1 hP1 hD1 hS1 => ?_)
  · have h9 : nativeFrameWords "java/lang/System" "arraycopy" 5 ≤ 20 := by decide +kernel
    simp only [List.map_nil, List.sum_nil]
    omega
  · rw [c1, c2, c3] at hP1 hD1
    refine kk H1 locs1 ls ?_ ?_ hS1 h
    · show va_P G.1 xt_C (xk_wl xc_S G.2 (xk_row σ k (va_cpy (σ.1 k) (σ.1 k) sp dp q))) H1
      rw [← e1]
      exact hP1
    · show va_D A (xk_wl xc_S G.2 (xk_row σ k (va_cpy (σ.1 k) (σ.1 k) sp dp q)))
      rw [← e1]
      exact hD1
end XJ
theorem k_A_fill {G : xk_D} {σ : xk_St} {k n : Nat} {v : Int32} (hsh : xc_S[k]? = some (.inl (0, n))) (hn : n < 2 ^ 31) : xk_M (xc G) 0 y_A_fill [.ref (xk_wA (xc G) k), .int v] σ (xk_pv (fun τ => τ = xk_row σ k (fun j => if j < n then v else σ.1 k j))) := by
  refine xk_enter (by decide) (Nat.le_of_ble_eq_true rfl) (fun K hE hc => ?_)
  show xk_X K _ _ 0 [(0, _), (1, _)] []
  refine x_iconst (nI 0) hE d_A_fill_0 (by decide) ?_
  refine x_istore_n [(2, _), (0, _), (1, _)] hE d_A_fill_1 rfl (by decide) rfl ?_
  refine x_aload_n hE d_A_fill_2 1 rfl ?_
  refine x_alen hc hsh d_A_fill_3 ?_
  refine x_istore_n [(3, _), (2, _), (0, _), (1, _)] hE d_A_fill_4 rfl (by decide) rfl ?_
  refine x_lv [2, 3, 1, 0] (lv' := [(0, _), (1, _), (2, _), (3, _)]) rfl ?_
  have loop : ∀ (m i : Nat) (τ : xk_St), i + m = n → τ = xk_row σ k (fun j => if j < i then v else σ.1 k j) → xk_X K (xk_vw (xc G)) τ 5 [(0, .ref (xk_wA (xc G) k)), (1, .int v), (2, .int (nI i)), (3, .int (nI n))] [] := by
    intro m
    induction m with
    | zero =>
      intro i τ hi hτ
      refine x_iload_n hE d_A_fill_5 2 rfl ?_
      refine x_iload_n hE d_A_fill_6 3 rfl ?_
      first | refine xn_icmp_ge hE d_A_fill_7 (fun h => ?_) (fun h => ?_) | refine x_icmp_ge hE d_A_fill_7 (fun h => ?_) (fun h => ?_)
      · skip
        exact x_ret hc d_A_fill_20 (by rw [hτ, show i = n by omega])
      · exact absurd h (by omega)
    | succ m ih =>
      intro i τ hi hτ
      refine x_iload_n hE d_A_fill_5 2 rfl ?_
      refine x_iload_n hE d_A_fill_6 3 rfl ?_
      first | refine xn_icmp_ge hE d_A_fill_7 (fun h => ?_) (fun h => ?_) | refine x_icmp_ge hE d_A_fill_7 (fun h => ?_) (fun h => ?_)
      · exact absurd h (by omega)
      · skip
        refine x_aload_n hE d_A_fill_10 0 rfl ?_
        refine x_iload_n hE d_A_fill_11 2 rfl ?_
        refine x_iload_n hE d_A_fill_12 1 rfl ?_
        refine x_iast hc hsh rfl (by omega) hn d_A_fill_13 ?_
        refine x_iinc 2 (nI (_ + 1)) [(2, _), (0, _), (1, _), (3, _)] hE d_A_fill_14 rfl (nI_inc _) (by decide) rfl ?_
        refine x_goto hE d_A_fill_17 ?_
        refine x_lv [1, 2, 0, 3] (lv' := [(0, _), (1, _), (2, _), (3, _)]) rfl ?_
        refine ih (i + 1) _ (by omega) ?_
        rw [hτ, xk_row_up]
        congr 1
        funext j
        by_cases h1 : j = i
        · subst h1; simp
        · by_cases h2 : j < i
          · rw [if_neg h1, if_pos h2, if_pos (by omega)]
          · rw [if_neg h1, if_neg h2, if_neg (by omega)]
  refine loop n 0 σ (by omega) ?_
  have h0 : (fun j => if j < 0 then v else σ.1 k j) = σ.1 k := by funext j; simp
  rw [h0, xk_row_id]
end
section
/-! UNIT: one contract a method -/
theorem xk_up_s (σ : xk_St) (k j b : Nat) (v : Int32) : (xk_up σ k j v).1 k b = if b = j then v else σ.1 k b := by simp [xk_up]
theorem xk_up_o {σ : xk_St} {k j i : Nat} {v : Int32} (h : i ≠ k) : (xk_up σ k j v).1 i = σ.1 i := (xk_up_ne i h).1
theorem xk_up_up {σ : xk_St} {k j : Nat} {a b : Int32} : xk_up (xk_up σ k j a) k j b = xk_up σ k j b := by
  unfold xk_up
  congr 1
  funext x y
  by_cases h : x = k ∧ y = j
  · simp [h]
  · simp [h]
def xu_clear (σ : xk_St) (k : Nat) : xk_St := xk_up (xk_up σ k 9 (nI 0)) k 10 (nI 0)
def xu_obey (σ : xk_St) (k : Nat) (o a : Int32) : xk_St := xu_clear (xk_up (xk_up (xk_up σ k 4 o) k 5 a) k 6 (nI 0)) k
def xu_drop (σ : xk_St) (k : Nat) : xk_St := xk_up (xk_up σ k 4 (nI 0)) k 5 (nI 0)
def xu_restart (σ : xk_St) (k : Nat) : xk_St := xu_obey (xk_up (xk_up (xk_up σ k 2 (σ.1 k 1)) k 3 (nI 20)) k 7 (nI 0)) k (nI 0) (nI 0)
def xu_settle (σ : xk_St) (k : Nat) (s t : Int32) : xk_St := xu_restart (xk_up (xk_up σ k 0 s) k 1 t) k
section XU
variable {G : xk_D} {σ : xk_St} {k : Nat} {x : am_U}
theorem k_U_clearPath (hk : 17 ≤ k ∧ k < 33) : xk_M (xc G) 0 y_U_clearPath [.ref (xk_wA (xc G) k)] σ (xk_pv (fun τ => τ = xu_clear σ k)) := by
  refine xk_enter (by decide) (Nat.le_of_ble_eq_true rfl) (fun K hE hc => ?_)
  show xk_X K _ _ 0 [(0, _)] []
  refine x_aload_n hE d_U_clearPath_0 0 rfl ?_
  refine x_iconst (nI 0) hE d_U_clearPath_1 (by decide) ?_
  refine pf_U_61 hc hk d_U_clearPath_2 ?_
  refine x_aload_n hE d_U_clearPath_5 0 rfl ?_
  refine x_iconst (nI 0) hE d_U_clearPath_6 (by decide) ?_
  refine pf_U_64 hc hk d_U_clearPath_7 ?_
  exact x_ret hc d_U_clearPath_10 (rfl)
theorem k_U_obey (hk : 17 ≤ k ∧ k < 33) {o a : Int32} : xk_M (xc G) 1 y_U_obey [.ref (xk_wA (xc G) k), .int o, .int a] σ (xk_pv (fun τ => τ = xu_obey σ k o a)) := by
  refine xk_enter (by decide) (Nat.le_of_ble_eq_true rfl) (fun K hE hc => ?_)
  show xk_X K _ _ 0 [(0, _), (1, _), (2, _)] []
  refine x_aload_n hE d_U_obey_0 0 rfl ?_
  refine x_iload_n hE d_U_obey_1 1 rfl ?_
  refine pf_U_39 hc hk d_U_obey_2 ?_
  refine x_aload_n hE d_U_obey_5 0 rfl ?_
  refine x_iload_n hE d_U_obey_6 2 rfl ?_
  refine pf_U_42 hc hk d_U_obey_7 ?_
  refine x_aload_n hE d_U_obey_10 0 rfl ?_
  refine x_iconst (nI 0) hE d_U_obey_11 (by decide) ?_
  refine pf_U_45 hc hk d_U_obey_12 ?_
  refine x_aload_n hE d_U_obey_15 0 rfl ?_
  refine ca_U_48 hc hk d_U_obey_16 (k_U_clearPath hk) (fun τ hq => ?_)
  obtain rfl := hq
  exact x_ret hc d_U_obey_19 (rfl)
theorem k_U_dropOrder (hk : 17 ≤ k ∧ k < 33) : xk_M (xc G) 0 y_U_dropOrder [.ref (xk_wA (xc G) k)] σ (xk_pv (fun τ => τ = xu_drop σ k)) := by
  refine xk_enter (by decide) (Nat.le_of_ble_eq_true rfl) (fun K hE hc => ?_)
  show xk_X K _ _ 0 [(0, _)] []
  refine x_aload_n hE d_U_dropOrder_0 0 rfl ?_
  refine x_iconst (nI 0) hE d_U_dropOrder_1 (by decide) ?_
  refine pf_U_39 hc hk d_U_dropOrder_2 ?_
  refine x_aload_n hE d_U_dropOrder_5 0 rfl ?_
  refine x_iconst (nI 0) hE d_U_dropOrder_6 (by decide) ?_
  refine pf_U_42 hc hk d_U_dropOrder_7 ?_
  exact x_ret hc d_U_dropOrder_10 (rfl)
theorem k_U_restart (hk : 17 ≤ k ∧ k < 33) : xk_M (xc G) 2 y_U_restart [.ref (xk_wA (xc G) k)] σ (xk_pv (fun τ => τ = xu_restart σ k)) := by
  refine xk_enter (by decide) (Nat.le_of_ble_eq_true rfl) (fun K hE hc => ?_)
  show xk_X K _ _ 0 [(0, _)] []
  refine x_aload_n hE d_U_restart_0 0 rfl ?_
  refine x_aload_n hE d_U_restart_1 0 rfl ?_
  refine gf_U_19 hc hk d_U_restart_2 rfl ?_
  refine pf_U_25 hc hk d_U_restart_5 ?_
  refine x_aload_n hE d_U_restart_8 0 rfl ?_
  refine x_bipush (nI 20) hE d_U_restart_9 (by decide) ?_
  refine pf_U_28 hc hk d_U_restart_11 ?_
  refine x_aload_n hE d_U_restart_14 0 rfl ?_
  refine x_iconst (nI 0) hE d_U_restart_15 (by decide) ?_
  refine pf_U_31 hc hk d_U_restart_16 (by first | exact Or.inl rfl | exact Or.inr rfl | assumption) ?_
  refine x_aload_n hE d_U_restart_19 0 rfl ?_
  refine x_iconst (nI 0) hE d_U_restart_20 (by decide) ?_
  refine x_iconst (nI 0) hE d_U_restart_21 (by decide) ?_
  refine ca_U_35 hc hk d_U_restart_22 (k_U_obey hk) (fun τ hq => ?_)
  obtain rfl := hq
  exact x_ret hc d_U_restart_25 (rfl)
theorem k_U_settle (hk : 17 ≤ k ∧ k < 33) {s t : Int32} : xk_M (xc G) 3 y_U_settle [.ref (xk_wA (xc G) k), .int s, .int t] σ (xk_pv (fun τ => τ = xu_settle σ k s t)) := by
  refine xk_enter (by decide) (Nat.le_of_ble_eq_true rfl) (fun K hE hc => ?_)
  show xk_X K _ _ 0 [(0, _), (1, _), (2, _)] []
  refine x_aload_n hE d_U_settle_0 0 rfl ?_
  refine x_iload_n hE d_U_settle_1 1 rfl ?_
  refine pf_U_15 hc hk d_U_settle_2 ?_
  refine x_aload_n hE d_U_settle_5 0 rfl ?_
  refine x_iload_n hE d_U_settle_6 2 rfl ?_
  refine pf_U_19 hc hk d_U_settle_7 ?_
  refine x_aload_n hE d_U_settle_10 0 rfl ?_
  refine ca_U_22 hc hk d_U_settle_11 (k_U_restart hk) (fun τ hq => ?_)
  obtain rfl := hq
  exact x_ret hc d_U_settle_14 (rfl)
theorem k_U_isDead (hk : 17 ≤ k ∧ k < 33) {a : Nat} (ha : σ.1 k 3 = nI a) (hb : a < 2 ^ 31) : xk_M (xc G) 0 y_U_isDead [.ref (xk_wA (xc G) k)] σ (xk_pi (fun r τ => r = (if a = 0 then nI 1 else nI 0) ∧ σ = τ)) := by
  refine xk_enter (by decide) (Nat.le_of_ble_eq_true rfl) (fun K hE hc => ?_)
  show xk_X K _ _ 0 [(0, _)] []
  refine x_aload_n hE d_U_isDead_0 0 rfl ?_
  refine gf_U_28 hc hk d_U_isDead_1 ha ?_
  first | refine xn_if_ne hE d_U_isDead_4 (fun h => ?_) (fun h => ?_) | refine x_if_ne hE d_U_isDead_4 (fun h => ?_) (fun h => ?_)
  · skip
    refine x_iconst (nI 0) hE d_U_isDead_11 (by decide) ?_
    exact x_zret hc d_U_isDead_12 (by first | exact Or.inl rfl | exact Or.inr rfl | assumption | omega) (⟨by rw [if_neg h], rfl⟩)
  · skip
    refine x_iconst (nI 1) hE d_U_isDead_7 (by decide) ?_
    refine x_goto hE d_U_isDead_8 ?_
    exact x_zret hc d_U_isDead_12 (by first | exact Or.inl rfl | exact Or.inr rfl | assumption | omega) (⟨by rw [if_pos h], rfl⟩)
theorem k_U_pathLength (hk : 17 ≤ k ∧ k < 33) (h : xc_at σ k x) : xk_M (xc G) 0 y_U_pathLength [.ref (xk_wA (xc G) k)] σ (xk_pi (fun r τ => r = nI (am_pth x).length ∧ σ = τ)) := by
  obtain ⟨h1, h2, h3, h4, h5, h6, f, h7, h8, h9, h10⟩ := h
  refine xk_enter (by decide) (Nat.le_of_ble_eq_true rfl) (fun K hE hc => ?_)
  show xk_X K _ _ 0 [(0, _)] []
  refine x_aload_n hE d_U_pathLength_0 0 rfl ?_
  refine gf_U_64 hc hk d_U_pathLength_1 h8 ?_
  refine x_aload_n hE d_U_pathLength_4 0 rfl ?_
  refine gf_U_61 hc hk d_U_pathLength_5 h7 ?_
  first | refine xn_isub hE d_U_pathLength_8 ?_ | refine x_isub hE d_U_pathLength_8 ?_
  exact x_iret hc d_U_pathLength_9 (⟨by congr 1; omega, rfl⟩)
theorem k_U_pathTile (hk : 17 ≤ k ∧ k < 33) (h : xc_at σ k x) {i : Nat} (hi : i < (am_pth x).length) : xk_M (xc G) 0 y_U_pathTile [.ref (xk_wA (xc G) k), .int (nI i)] σ (xk_pi (fun r τ => r = nI ((am_pth x)[i]) ∧ σ = τ)) := by
  obtain ⟨h1, h2, h3, h4, h5, h6, f, h7, h8, h9, h10⟩ := h
  refine xk_enter (by decide) (Nat.le_of_ble_eq_true rfl) (fun K hE hc => ?_)
  show xk_X K _ _ 0 [(0, _), (1, _)] []
  refine x_aload_n hE d_U_pathTile_0 0 rfl ?_
  refine gf_U_9 hc hk d_U_pathTile_1 ?_
  refine x_aload_n hE d_U_pathTile_4 0 rfl ?_
  refine gf_U_61 hc hk d_U_pathTile_5 h7 ?_
  refine x_iload_n hE d_U_pathTile_8 1 rfl ?_
  first | refine xn_iadd hE d_U_pathTile_9 ?_ | refine x_iadd hE d_U_pathTile_9 ?_
  refine x_iald hc (xc_shR (by omega)) rfl (by omega) (by decide) d_U_pathTile_10 (h10 i hi) ?_
  exact x_iret hc d_U_pathTile_11 (⟨rfl, rfl⟩)
theorem k_U_isPathTo (hk : 17 ≤ k ∧ k < 33) (h : xc_at σ k x) (hx : ∀ t ∈ am_pth x, t < 64) {g : Nat} (hg : g < 64) : xk_M (xc G) 1 y_U_isPathTo [.ref (xk_wA (xc G) k), .int (nI g)] σ (xk_pi (fun r τ => r = (if (am_pth x).getLast? = some g then nI 1 else nI 0) ∧ σ = τ)) := by
  have h0 := h
  obtain ⟨h1, h2, h3, h4, h5, h6, f, h7, h8, h9, h10⟩ := h
  refine xk_enter (by decide) (Nat.le_of_ble_eq_true rfl) (fun K hE hc => ?_)
  show xk_X K _ _ 0 [(0, _), (1, _)] []
  refine x_aload_n hE d_U_isPathTo_0 0 rfl ?_
  refine ca_U_67 hc hk d_U_isPathTo_1 (k_U_pathLength hk h0) (fun r τ hq => ?_)
  obtain ⟨rfl, rfl⟩ := hq
  first | refine xn_if_le hE d_U_isPathTo_4 (fun hl => ?_) (fun hl => ?_) | refine x_if_le hE d_U_isPathTo_4 (fun hl => ?_) (fun hl => ?_)
  · skip
    refine x_iconst (nI 0) hE d_U_isPathTo_26 (by decide) ?_
    have e : am_pth x = [] := List.length_eq_zero_iff.mp hl
    exact x_zret hc d_U_isPathTo_27 (by first | exact Or.inl rfl | exact Or.inr rfl | assumption | omega) (⟨by rw [e]; rfl, rfl⟩)
  · skip
    have hlast : (am_pth x).getLast? = some ((am_pth x)[(am_pth x).length - 1]) := by
      rw [List.getLast?_eq_getElem?, List.getElem?_eq_getElem]
    have h11 := h10 ((am_pth x).length - 1) (by omega)
    rw [show f + ((am_pth x).length - 1) = f + (am_pth x).length - 1 by omega] at h11
    have h12 : (am_pth x)[(am_pth x).length - 1] < 64 := hx _ (List.getElem_mem _)
    refine x_aload_n hE d_U_isPathTo_7 0 rfl ?_
    refine gf_U_9 hc hk d_U_isPathTo_8 ?_
    refine x_aload_n hE d_U_isPathTo_11 0 rfl ?_
    refine gf_U_64 hc hk d_U_isPathTo_12 h8 ?_
    refine x_iconst (nI 1) hE d_U_isPathTo_15 (by decide) ?_
    first | refine xn_isub hE d_U_isPathTo_16 ?_ | refine x_isub hE d_U_isPathTo_16 ?_
    refine x_iald hc (xc_shR (by omega)) rfl (by omega) (by decide) d_U_isPathTo_17 h11 ?_
    refine x_iload_n hE d_U_isPathTo_18 1 rfl ?_
    first | refine xn_icmp_ne hE d_U_isPathTo_19 (fun h => ?_) (fun h => ?_) | refine x_icmp_ne hE d_U_isPathTo_19 (fun h => ?_) (fun h => ?_)
    · skip
      refine x_iconst (nI 0) hE d_U_isPathTo_26 (by decide) ?_
      exact x_zret hc d_U_isPathTo_27 (by first | exact Or.inl rfl | exact Or.inr rfl | assumption | omega) (⟨by rw [hlast, if_neg (fun z => h (Option.some.inj z))], rfl⟩)
    · skip
      refine x_iconst (nI 1) hE d_U_isPathTo_22 (by decide) ?_
      refine x_goto hE d_U_isPathTo_23 ?_
      exact x_zret hc d_U_isPathTo_27 (by first | exact Or.inl rfl | exact Or.inr rfl | assumption | omega) (⟨by rw [hlast, if_pos (by rw [h])], rfl⟩)
theorem k_U_runsOutOfPatience (hk : 17 ≤ k ∧ k < 33) {a : Nat} (ha : σ.1 k 6 = nI a) (hb : a < 3) : xk_M (xc G) 0 y_U_runsOutOfPatience [.ref (xk_wA (xc G) k)] σ (xk_pi (fun r τ => r = (if a + 1 < 3 then nI 0 else nI 1) ∧ τ = xk_up σ k 6 (nI (if a + 1 < 3 then a + 1 else 0)))) := by
  refine xk_enter (by decide) (Nat.le_of_ble_eq_true rfl) (fun K hE hc => ?_)
  show xk_X K _ _ 0 [(0, _)] []
  refine x_aload_n hE d_U_runsOutOfPatience_0 0 rfl ?_
  refine x_dup hE d_U_runsOutOfPatience_1 rfl ?_
  refine gf_U_45 hc hk d_U_runsOutOfPatience_2 ha ?_
  refine x_iconst (nI 1) hE d_U_runsOutOfPatience_5 (by decide) ?_
  first | refine xn_iadd hE d_U_runsOutOfPatience_6 ?_ | refine x_iadd hE d_U_runsOutOfPatience_6 ?_
  refine pf_U_45 hc hk d_U_runsOutOfPatience_7 ?_
  refine x_aload_n hE d_U_runsOutOfPatience_10 0 rfl ?_
  refine gf_U_45 hc hk d_U_runsOutOfPatience_11 (by rw [xk_up_s, if_pos rfl]) ?_
  refine x_iconst (nI 3) hE d_U_runsOutOfPatience_14 (by decide) ?_
  first | refine xn_icmp_ge hE d_U_runsOutOfPatience_15 (fun h => ?_) (fun h => ?_) | refine x_icmp_ge hE d_U_runsOutOfPatience_15 (fun h => ?_) (fun h => ?_)
  · skip
    refine x_aload_n hE d_U_runsOutOfPatience_20 0 rfl ?_
    refine x_iconst (nI 0) hE d_U_runsOutOfPatience_21 (by decide) ?_
    refine pf_U_45 hc hk d_U_runsOutOfPatience_22 ?_
    refine x_iconst (nI 1) hE d_U_runsOutOfPatience_25 (by decide) ?_
    exact x_zret hc d_U_runsOutOfPatience_26 (by first | exact Or.inl rfl | exact Or.inr rfl | assumption | omega) (⟨by rw [if_neg (by omega)], by rw [if_neg (by omega), xk_up_up]⟩)
  · skip
    refine x_iconst (nI 0) hE d_U_runsOutOfPatience_18 (by decide) ?_
    exact x_zret hc d_U_runsOutOfPatience_19 (by first | exact Or.inl rfl | exact Or.inr rfl | assumption | omega) (⟨by rw [if_pos (by omega)], by rw [if_pos (by omega)]⟩)
end XU
end
section
/-! UNIT, second part: what the contracts say of the picture -/
section XU2
variable {G : xk_D} {σ : xk_St} {k n : Nat} {x : am_U}
theorem xu_clear_r (σ : xk_St) (k b : Nat) : (xu_clear σ k).1 k b = if b = 10 then nI 0 else if b = 9 then nI 0 else σ.1 k b := by simp only [xu_clear, xk_up_s]
theorem xu_clear_o {i : Nat} (h : i ≠ k) : (xu_clear σ k).1 i = σ.1 i := by simp only [xu_clear]; rw [xk_up_o h, xk_up_o h]
theorem xu_obey_r (σ : xk_St) (k b : Nat) (o a : Int32) : (xu_obey σ k o a).1 k b = if b = 10 then nI 0 else if b = 9 then nI 0 else if b = 6 then nI 0 else if b = 5 then a else if b = 4 then o else σ.1 k b := by simp only [xu_obey, xu_clear_r, xk_up_s]
theorem xu_obey_o {i : Nat} {o a : Int32} (h : i ≠ k) : (xu_obey σ k o a).1 i = σ.1 i := by simp only [xu_obey]; rw [xu_clear_o h, xk_up_o h, xk_up_o h, xk_up_o h]
theorem xu_drop_r (σ : xk_St) (k b : Nat) : (xu_drop σ k).1 k b = if b = 5 then nI 0 else if b = 4 then nI 0 else σ.1 k b := by simp only [xu_drop, xk_up_s]
theorem xu_drop_o {i : Nat} (h : i ≠ k) : (xu_drop σ k).1 i = σ.1 i := by simp only [xu_drop]; rw [xk_up_o h, xk_up_o h]
theorem xu_restart_r (σ : xk_St) (k b : Nat) : (xu_restart σ k).1 k b = if b = 10 then nI 0 else if b = 9 then nI 0 else if b = 6 then nI 0 else if b = 5 then nI 0 else if b = 4 then nI 0 else if b = 7 then nI 0 else if b = 3 then nI 20 else if b = 2 then σ.1 k 1 else σ.1 k b := by simp only [xu_restart, xu_obey_r, xk_up_s]
theorem xu_restart_o {i : Nat} (h : i ≠ k) : (xu_restart σ k).1 i = σ.1 i := by simp only [xu_restart]; rw [xu_obey_o h, xk_up_o h, xk_up_o h, xk_up_o h]
theorem xu_clear_at (h : xc_at σ k x) : xc_at (xu_clear σ k) k (am_pts x, am_til x, am_ord x, am_aim x, am_pat x, []) ∧ xc_own k σ (xu_clear σ k) := by
  obtain ⟨h1, h2, h3, h4, h5, h6, f, h7, h8, h9, h10⟩ := h
  refine ⟨⟨?_, ?_, ?_, ?_, ?_, ?_, 0, ?_, ?_, Nat.le_of_ble_eq_true rfl, fun i hi => absurd hi (Nat.not_lt_zero _)⟩, rfl, fun j hj => xu_clear_o hj, ?_, ?_⟩
  all_goals simp only [xu_clear_r]
  · exact h1
  · exact h2
  · exact h3
  · exact h4
  · exact h5
  · exact h6
  · rfl
  · rfl
  · rfl
  · rfl
theorem xu_obey_at {o a : Nat} (h : xc_at σ k x) : xc_at (xu_obey σ k (nI o) (nI a)) k (am_pts x, am_til x, o, a, 0, []) ∧ xc_own k σ (xu_obey σ k (nI o) (nI a)) := by
  obtain ⟨h1, h2, h3, h4, h5, h6, f, h7, h8, h9, h10⟩ := h
  refine ⟨⟨?_, ?_, ?_, ?_, ?_, ?_, 0, ?_, ?_, Nat.le_of_ble_eq_true rfl, fun i hi => absurd hi (Nat.not_lt_zero _)⟩, rfl, fun j hj => xu_obey_o hj, ?_, ?_⟩
  all_goals simp only [xu_obey_r]
  · exact h1
  · exact h2
  · exact h3
  · rfl
  · rfl
  · rfl
  · rfl
  · rfl
  · rfl
  · rfl
theorem xu_drop_at (h : xc_at σ k x) : xc_at (xu_drop σ k) k (am_drop x) ∧ xc_own k σ (xu_drop σ k) := by
  obtain ⟨h1, h2, h3, h4, h5, h6, f, h7, h8, h9, h10⟩ := h
  refine ⟨⟨?_, ?_, ?_, ?_, ?_, ?_, f, ?_, ?_, h9, fun i hi => ?_⟩, rfl, fun j hj => xu_drop_o hj, ?_, ?_⟩
  all_goals first | (rw [xu_drop_o (show k + 16 ≠ k by omega)]; exact h10 i hi) | simp only [xu_drop_r]
  · exact h1
  · exact h2
  · exact h3
  · rfl
  · rfl
  · exact h6
  · exact h7
  · exact h8
  · rfl
  · rfl
theorem xu_restart_at {t : Nat} (h : σ.1 k 1 = nI t) : xc_at (xu_restart σ k) k (20, t, 0, 0, 0, []) ∧ xc_own k σ (xu_restart σ k) := by
  refine ⟨⟨?_, ?_, ?_, ?_, ?_, ?_, 0, ?_, ?_, Nat.le_of_ble_eq_true rfl, fun i hi => absurd hi (Nat.not_lt_zero _)⟩, rfl, fun j hj => xu_restart_o hj, ?_, ?_⟩
  all_goals simp only [xu_restart_r]
  · rfl
  · exact fun _ => h
  · exact fun e => absurd e (show ¬ (20 : Nat) = 0 by decide)
  · rfl
  · rfl
  · rfl
  · rfl
  · rfl
  · rfl
  · rfl
theorem k_U_step (hk : 17 ≤ k ∧ k < 33) (h : xc_at σ k x) (ho : am_ord x ≤ 2) (ha : am_aim x < 64) (hp0 : 0 < am_pts x) {t : Nat} {r : List Nat} (hp : am_pth x = t :: r) (ht : t < 64) : xk_M (xc G) 1 y_U_step [.ref (xk_wA (xc G) k)] σ (xk_pv (fun τ => xc_at τ k (if am_ord x = 1 ∧ t = am_aim x then (am_pts x, t, 0, 0, 0, r) else (am_pts x, t, am_ord x, am_aim x, 0, r)) ∧ xc_own k σ τ)) := by
  obtain ⟨h1, h2, h3, h4, h5, h6, f, h7, h8, h9, h10⟩ := h
  have hl : (am_pth x).length = r.length + 1 := by rw [hp]; rfl
  have h11 : σ.1 (k + 16) f = nI t := by
    have := h10 0 (by omega)
    simpa [hp] using this
  have hr : ∀ b, (xk_up (xk_up (xk_up σ k 2 (nI t)) k 9 (nI (f + 1))) k 6 (nI 0)).1 k b = if b = 6 then nI 0 else if b = 9 then nI (f + 1) else if b = 2 then nI t else σ.1 k b := by intro b; simp only [xk_up_s]
  have hr0 : ∀ j, j ≠ k → (xk_up (xk_up (xk_up σ k 2 (nI t)) k 9 (nI (f + 1))) k 6 (nI 0)).1 j = σ.1 j := fun j hj => by rw [xk_up_o hj, xk_up_o hj, xk_up_o hj]
  have hat : xc_at (xk_up (xk_up (xk_up σ k 2 (nI t)) k 9 (nI (f + 1))) k 6 (nI 0)) k (am_pts x, t, am_ord x, am_aim x, 0, r) := by
    refine ⟨?_, ?_, ?_, ?_, ?_, ?_, f + 1, ?_, ?_, by show f + 1 + r.length ≤ 64; omega, fun i hi => ?_⟩
    all_goals first | rw [hr0 _ (show k + 16 ≠ k by omega)] | simp only [hr]
    · exact h1
    · exact fun _ => rfl
    · exact fun e => absurd e (show ¬ am_pts x = 0 by omega)
    · exact h4
    · exact h5
    · rfl
    · rfl
    · refine Eq.trans h8 ?_
      congr 1
      show f + (am_pth x).length = f + 1 + r.length
      omega
    · have hi : i < r.length := hi
      have := h10 (i + 1) (by omega)
      rw [show f + (i + 1) = f + 1 + i by omega] at this
      rw [this]
      simp [hp]
  have hown : xc_own k σ (xk_up (xk_up (xk_up σ k 2 (nI t)) k 9 (nI (f + 1))) k 6 (nI 0)) := ⟨rfl, hr0, by rw [hr]; rfl, by rw [hr]; rfl⟩
  refine xk_enter (by decide) (Nat.le_of_ble_eq_true rfl) (fun K hE hc => ?_)
  show xk_X K _ _ 0 [(0, _)] []
  refine x_aload_n hE d_U_step_0 0 rfl ?_
  refine x_aload_n hE d_U_step_1 0 rfl ?_
  refine gf_U_9 hc hk d_U_step_2 ?_
  refine x_aload_n hE d_U_step_5 0 rfl ?_
  refine gf_U_61 hc hk d_U_step_6 h7 ?_
  refine x_iald hc (xc_shR (by omega)) rfl (by omega) (by decide) d_U_step_9 h11 ?_
  refine pf_U_25 hc hk d_U_step_10 ?_
  refine x_aload_n hE d_U_step_13 0 rfl ?_
  refine x_dup hE d_U_step_14 rfl ?_
  refine gf_U_61 hc hk d_U_step_15 (show _ = nI f by rw [xk_up_s, if_neg (by decide)]; exact h7) ?_
  refine x_iconst (nI 1) hE d_U_step_18 (by decide) ?_
  first | refine xn_iadd hE d_U_step_19 ?_ | refine x_iadd hE d_U_step_19 ?_
  refine pf_U_61 hc hk d_U_step_20 ?_
  refine x_aload_n hE d_U_step_23 0 rfl ?_
  refine x_iconst (nI 0) hE d_U_step_24 (by decide) ?_
  refine pf_U_45 hc hk d_U_step_25 ?_
  refine x_aload_n hE d_U_step_28 0 rfl ?_
  refine gf_U_39 hc hk d_U_step_29 (show _ = nI (am_ord x) by rw [hr]; exact h4) ?_
  refine x_iconst (nI 1) hE d_U_step_32 (by decide) ?_
  first | refine xn_icmp_ne hE d_U_step_33 (fun h => ?_) (fun h => ?_) | refine x_icmp_ne hE d_U_step_33 (fun h => ?_) (fun h => ?_)
  · skip
    exact x_ret hc d_U_step_51 (by rw [if_neg (fun z => h z.1)]; exact ⟨hat, hown⟩)
  · skip
    refine x_aload_n hE d_U_step_36 0 rfl ?_
    refine gf_U_25 hc hk d_U_step_37 (show _ = nI t by rw [hr]; rfl) ?_
    refine x_aload_n hE d_U_step_40 0 rfl ?_
    refine gf_U_42 hc hk d_U_step_41 (show _ = nI (am_aim x) by rw [hr]; exact h5) ?_
    first | refine xn_icmp_ne hE d_U_step_44 (fun g => ?_) (fun g => ?_) | refine x_icmp_ne hE d_U_step_44 (fun g => ?_) (fun g => ?_)
    · skip
      exact x_ret hc d_U_step_51 (by rw [if_neg (fun z => g z.2)]; exact ⟨hat, hown⟩)
    · skip
      refine x_aload_n hE d_U_step_47 0 rfl ?_
      refine ca_U_71 hc hk d_U_step_48 (k_U_dropOrder hk) (fun τ hq => ?_)
      obtain rfl := hq
      obtain ⟨e1, e2⟩ := xu_drop_at hat
      exact x_ret hc d_U_step_51 (by rw [if_pos ⟨h, g⟩]; exact ⟨e1, e2.1.trans hown.1, fun j hj => (e2.2.1 j hj).trans (hown.2.1 j hj), e2.2.2.1.trans hown.2.2.1, e2.2.2.2.trans hown.2.2.2⟩)
theorem k_U_suffer (hk : 17 ≤ k ∧ k < 33) (h : xc_at σ k x) (hp : am_pts x ≤ 20) {q : Nat} (hq : q < 2 ^ 30) : xk_M (xc G) 2 y_U_suffer [.ref (xk_wA (xc G) k), .int (nI q)] σ (xk_pv (fun τ => xc_at τ k (am_hurt x q) ∧ xc_own k σ τ ∧ τ.1 k 7 = nI (if 0 < q then 1 else 0))) := by
  have rest : ∀ (K : xk_K) (v : Nat), v = (if 0 < q then 1 else 0) → xk_E K c_U_suffer 2 → xk_H K (xc G) c_U_suffer 2 RU 2 none (xk_pv (fun τ => xc_at τ k (am_hurt x q) ∧ xc_own k σ τ ∧ τ.1 k 7 = nI (if 0 < q then 1 else 0))) → xk_X K (xk_vw (xc G)) σ 10 [(0, .ref (xk_wA (xc G) k)), (1, .int (nI q))] [.int (nI v), .ref (xk_wA (xc G) k)] := by
    intro K v hv hE hc
    obtain ⟨h1, h2, h3, h4, h5, h6, f, h7, h8, h9, h10⟩ := h
    have hr : ∀ b, (xk_up (xk_up σ k 7 (nI v)) k 3 (nI (am_pts x - q))).1 k b = if b = 3 then nI (am_pts x - q) else if b = 7 then nI v else σ.1 k b := by intro b; simp only [xk_up_s]
    have hr0 : ∀ j, j ≠ k → (xk_up (xk_up σ k 7 (nI v)) k 3 (nI (am_pts x - q))).1 j = σ.1 j := fun j hj => by rw [xk_up_o hj, xk_up_o hj]
    refine pf_U_31 hc hk d_U_suffer_10 (by rw [hv]; split; exact Or.inr rfl; exact Or.inl rfl) ?_
    refine x_aload_n hE d_U_suffer_13 0 rfl ?_
    refine x_iconst (nI 0) hE d_U_suffer_14 (by decide) ?_
    refine x_aload_n hE d_U_suffer_15 0 rfl ?_
    refine gf_U_28 hc hk d_U_suffer_16 (show _ = nI (am_pts x) by rw [xk_up_s, if_neg (by decide)]; exact h1) ?_
    refine x_iload_n hE d_U_suffer_19 1 rfl ?_
    refine x_isub hE d_U_suffer_20 ?_
    refine xj_U_51 hc d_U_suffer_21 ?_
    rw [xj_lose (by omega) hq]
    refine pf_U_28 hc hk d_U_suffer_24 ?_
    refine x_aload_n hE d_U_suffer_27 0 rfl ?_
    refine ca_U_57 hc hk d_U_suffer_28 (k_U_isDead hk (a := am_pts x - q) (by rw [hr]; rfl) (by omega)) (fun r τ hq => ?_)
    obtain ⟨rfl, rfl⟩ := hq
    by_cases hd : am_pts x - q = 0
    · rw [if_pos hd]
      first | refine xn_if_eq hE d_U_suffer_31 (fun z => ?_) (fun z => ?_) | refine x_if_eq hE d_U_suffer_31 (fun z => ?_) (fun z => ?_)
      · exact absurd z (by decide)
      · skip
        refine x_aload_n hE d_U_suffer_34 0 rfl ?_
        refine x_iconst (-1) hE d_U_suffer_35 (by decide) ?_
        refine pf_U_25 hc hk d_U_suffer_36 ?_
        refine x_aload_n hE d_U_suffer_39 0 rfl ?_
        refine x_iconst (nI 0) hE d_U_suffer_40 (by decide) ?_
        refine x_iconst (nI 0) hE d_U_suffer_41 (by decide) ?_
        refine ca_U_35 hc hk d_U_suffer_42 (k_U_obey hk) (fun τ hq => ?_)
        obtain rfl := hq
        have hl : am_pts x ≤ q := by omega
        have hr2 : ∀ b, (xu_obey (xk_up (xk_up (xk_up σ k 7 (nI v)) k 3 (nI (am_pts x - q))) k 2 (-1)) k (nI 0) (nI 0)).1 k b = if b = 10 then nI 0 else if b = 9 then nI 0 else if b = 6 then nI 0 else if b = 5 then nI 0 else if b = 4 then nI 0 else if b = 2 then -1 else if b = 3 then nI (am_pts x - q) else if b = 7 then nI v else σ.1 k b := by intro b; simp only [xu_obey_r, xk_up_s]
        refine x_ret hc d_U_suffer_45 ⟨?_, ⟨rfl, fun j hj => ?_, ?_, ?_⟩, ?_⟩
        · unfold am_hurt
          rw [if_pos hl]
          refine ⟨?_, ?_, ?_, ?_, ?_, ?_, 0, ?_, ?_, Nat.le_of_ble_eq_true rfl, fun i hi => absurd hi (Nat.not_lt_zero _)⟩
          all_goals simp only [hr2]
          · show nI (am_pts x - q) = nI 0
            rw [hd]
          · exact fun e => absurd e (Nat.lt_irrefl 0)
          · exact fun _ => rfl
          · rfl
          · rfl
          · rfl
          · rfl
          · rfl
        · rw [xu_obey_o hj, xk_up_o hj, hr0 j hj]
        · rw [hr2]; rfl
        · rw [hr2]; rfl
        · rw [hr2, ← hv]; rfl
    · rw [if_neg hd]
      first | refine xn_if_eq hE d_U_suffer_31 (fun z => ?_) (fun z => ?_) | refine x_if_eq hE d_U_suffer_31 (fun z => ?_) (fun z => ?_)
      · skip
        refine x_ret hc d_U_suffer_45 ⟨?_, ⟨rfl, hr0, ?_, ?_⟩, ?_⟩
        · unfold am_hurt
          rw [if_neg (show ¬ am_pts x ≤ q by omega)]
          refine ⟨?_, ?_, ?_, ?_, ?_, ?_, f, ?_, ?_, h9, fun i hi => ?_⟩
          all_goals first | (rw [hr0 _ (show k + 16 ≠ k by omega)]; exact h10 i hi) | simp only [hr]
          · rfl
          · exact fun _ => h2 (by omega)
          · exact fun e => absurd e hd
          · exact h4
          · exact h5
          · exact h6
          · exact h7
          · exact h8
        · rw [hr]; rfl
        · rw [hr]; rfl
        · rw [hr, ← hv]; rfl
      · exact absurd rfl z
  refine xk_enter (by decide) (Nat.le_of_ble_eq_true rfl) (fun K hE hc => ?_)
  show xk_X K _ _ 0 [(0, _), (1, _)] []
  refine x_aload_n hE d_U_suffer_0 0 rfl ?_
  refine x_iload_n hE d_U_suffer_1 1 rfl ?_
  first | refine xn_if_le hE d_U_suffer_2 (fun hq0 => ?_) (fun hq0 => ?_) | refine x_if_le hE d_U_suffer_2 (fun hq0 => ?_) (fun hq0 => ?_)
  · skip
    refine x_iconst (nI 0) hE d_U_suffer_9 (by decide) ?_
    exact rest K 0 (by rw [if_neg (by omega)]) hE hc
  · skip
    refine x_iconst (nI 1) hE d_U_suffer_5 (by decide) ?_
    refine x_goto hE d_U_suffer_6 ?_
    exact rest K 1 (by rw [if_pos (by omega)]) hE hc
theorem k_U_rest (hk : 17 ≤ k ∧ k < 33) (h : xc_at σ k x) (hp : am_pts x ≤ 20) (ho : am_ord x ≤ 2) {q : Nat} (hq : σ.1 k 7 = nI (if 0 < q then 1 else 0)) : xk_M (xc G) 1 y_U_rest [.ref (xk_wA (xc G) k)] σ (xk_pv (fun τ => xc_at τ k (am_rest x q) ∧ xc_own k σ τ)) := by
  have h0 := h
  obtain ⟨h1, h2, h3, h4, h5, h6, f, h7, h8, h9, h10⟩ := h
  have hno : ¬ (0 < am_pts x ∧ am_ord x = 0 ∧ q = 0 ∧ am_pts x < 20) → (xc_at σ k (am_rest x q) ∧ xc_own k σ σ) := fun z => by
    unfold am_rest
    rw [if_neg z]
    exact ⟨h0, rfl, fun _ _ => rfl, rfl, rfl⟩
  refine xk_enter (by decide) (Nat.le_of_ble_eq_true rfl) (fun K hE hc => ?_)
  show xk_X K _ _ 0 [(0, _)] []
  refine x_aload_n hE d_U_rest_0 0 rfl ?_
  refine ca_U_57 hc hk d_U_rest_1 (k_U_isDead hk h1 (by omega)) (fun r τ hq => ?_)
  obtain ⟨rfl, rfl⟩ := hq
  by_cases hd : am_pts x = 0
  · rw [if_pos hd]
    first | refine xn_if_ne hE d_U_rest_4 (fun z => ?_) (fun z => ?_) | refine x_if_ne hE d_U_rest_4 (fun z => ?_) (fun z => ?_)
    · skip
      exact x_ret hc d_U_rest_40 (hno (by omega))
    · exact absurd z (by decide)
  · rw [if_neg hd]
    first | refine xn_if_ne hE d_U_rest_4 (fun z => ?_) (fun z => ?_) | refine x_if_ne hE d_U_rest_4 (fun z => ?_) (fun z => ?_)
    · exact absurd rfl z
    · skip
      refine x_aload_n hE d_U_rest_7 0 rfl ?_
      refine gf_U_39 hc hk d_U_rest_8 h4 ?_
      first | refine xn_if_ne hE d_U_rest_11 (fun g => ?_) (fun g => ?_) | refine x_if_ne hE d_U_rest_11 (fun g => ?_) (fun g => ?_)
      · skip
        exact x_ret hc d_U_rest_40 (hno (by omega))
      · skip
        refine x_aload_n hE d_U_rest_14 0 rfl ?_
        refine gf_U_31 hc hk d_U_rest_15 hq ?_
        first | refine xn_if_ne hE d_U_rest_18 (fun e => ?_) (fun e => ?_) | refine x_if_ne hE d_U_rest_18 (fun e => ?_) (fun e => ?_)
        · skip
          have : ¬ q = 0 := fun y => e (by rw [y]; rfl)
          exact x_ret hc d_U_rest_40 (hno (by omega))
        · skip
          have hq0 : q = 0 := by
            rcases Nat.eq_zero_or_pos q with y | y
            · exact y
            · rw [if_pos y] at e; exact absurd e (by decide)
          refine x_aload_n hE d_U_rest_21 0 rfl ?_
          refine gf_U_28 hc hk d_U_rest_22 h1 ?_
          refine x_bipush (nI 20) hE d_U_rest_25 (by decide) ?_
          first | refine xn_icmp_ge hE d_U_rest_27 (fun u => ?_) (fun u => ?_) | refine x_icmp_ge hE d_U_rest_27 (fun u => ?_) (fun u => ?_)
          · skip
            exact x_ret hc d_U_rest_40 (hno (by omega))
          · skip
            refine x_aload_n hE d_U_rest_30 0 rfl ?_
            refine x_dup hE d_U_rest_31 rfl ?_
            refine gf_U_28 hc hk d_U_rest_32 h1 ?_
            refine x_iconst (nI 1) hE d_U_rest_35 (by decide) ?_
            first | refine xn_iadd hE d_U_rest_36 ?_ | refine x_iadd hE d_U_rest_36 ?_
            refine pf_U_28 hc hk d_U_rest_37 ?_
            refine x_ret hc d_U_rest_40 ⟨?_, rfl, fun j hj => xk_up_o hj, ?_, ?_⟩
            · unfold am_rest
              rw [if_pos ⟨by omega, g, hq0, u⟩]
              refine ⟨?_, ?_, ?_, ?_, ?_, ?_, f, ?_, ?_, h9, fun i hi => ?_⟩
              all_goals first | (rw [xk_up_o (show k + 16 ≠ k by omega)]; exact h10 i hi) | simp only [xk_up_s]
              · rfl
              · exact fun _ => h2 (by omega)
              · exact fun e => absurd e (Nat.succ_ne_zero _)
              · exact h4
              · exact h5
              · exact h6
              · exact h7
              · exact h8
            · rw [xk_up_s]; rfl
            · rw [xk_up_s]; rfl
end XU2
end
section
/-! GROUND: bits, walls, distance, what lies beside -/
section XTab
variable {S : Type} {K : xk_K} {V : xk_V S} {σ : S} {cc : ByteArray} {nL pc tgt len : Nat} {lv : List (Nat × Value)} {st : List Value} {dflt lo hi off : Int} {offs : Array Int}
theorem x_tabIn (hc : xk_E K cc nL) (hd : decode cc pc = .ok (.tableswitch dflt lo hi offs, len)) {x : Int32} (h1 : ¬ x.toInt < lo) (h2 : ¬ hi < x.toInt) (ho : offs[(x.toInt - lo).toNat]? = some off) (ht : (pc : Int) + off = (tgt : Int)) (k : xk_X K V σ tgt lv st) : xk_X K V σ pc lv (.int x :: st) := by
  obtain ⟨p, l, e, R, s, m, args, below, meth, c, A, cells, slots, Q⟩ := K
  intro H locs ls hP hD hS h
  exact lv_tableIn hc.1 hc.2.1 hd h1 h2 ho ht (k H locs ls hP hD hS h)
theorem x_tabOut (hc : xk_E K cc nL) (hd : decode cc pc = .ok (.tableswitch dflt lo hi offs, len)) {x : Int32} (h1 : x.toInt < lo ∨ hi < x.toInt) (ht : (pc : Int) + dflt = (tgt : Int)) (k : xk_X K V σ tgt lv st) : xk_X K V σ pc lv (.int x :: st) := by
  obtain ⟨p, l, e, R, s, m, args, below, meth, c, A, cells, slots, Q⟩ := K
  intro H locs ls hP hD hS h
  exact lv_tableOut hc.1 hc.2.1 hd h1 ht (k H locs ls hP hD hS h)
end XTab
section XGr
variable {G : xk_D} {σ : xk_St}
/-- the walls, as bits -/
def xc_W (W : Nat → Bool) (σ : xk_St) : Prop := ∀ t, t < 64 → xb_t (σ.2 1 0) t = W t
theorem k_G_bit {t : Int32} : xk_M (xc G) 0 y_G_bit [.int t] σ (xk_pl (fun r τ => r = xb_b t ∧ σ = τ)) := by
  refine xk_enter (by decide) (Nat.le_of_ble_eq_true rfl) (fun K hE hc => ?_)
  show xk_X K _ _ 0 [(0, _)] []
  refine x_lconst 1 hE d_G_bit_0 (by decide) ?_
  refine x_iload_n hE d_G_bit_1 0 rfl ?_
  refine x_lshl hE d_G_bit_2 ?_
  exact x_lret hc d_G_bit_3 (⟨rfl, rfl⟩)
theorem k_G_isWall {W : Nat → Bool} (hW : xc_W W σ) {t : Nat} (ht : t < 64) : xk_M (xc G) 1 y_G_isWall [.ref (xk_wA (xc G) 1), .int (nI t)] σ (xk_pi (fun r τ => r = (if W t = true then nI 1 else nI 0) ∧ σ = τ)) := by
  refine xk_enter (by decide) (Nat.le_of_ble_eq_true rfl) (fun K hE hc => ?_)
  show xk_X K _ _ 0 [(0, _), (1, _)] []
  refine x_aload_n hE d_G_isWall_0 0 rfl ?_
  refine gf_G_21 hc d_G_isWall_1 rfl ?_
  refine x_iload_n hE d_G_isWall_4 1 rfl ?_
  refine ca_G_25 hc d_G_isWall_5 (k_G_bit) (fun r τ hq => ?_)
  obtain ⟨rfl, rfl⟩ := hq
  refine x_land hE d_G_isWall_8 ?_
  refine x_lconst 0 hE d_G_isWall_9 (by decide) ?_
  refine x_lcmp hE d_G_isWall_10 ?_
  refine x_if_eq hE d_G_isWall_11 (fun h => ?_) (fun h => ?_)
  · skip
    refine x_iconst (nI 0) hE d_G_isWall_18 (by decide) ?_
    rw [xb_test ht, hW t ht] at h
    exact x_zret hc d_G_isWall_19 (by first | exact Or.inl rfl | exact Or.inr rfl | assumption | omega) (⟨by rw [h]; rfl, rfl⟩)
  · skip
    refine x_iconst (nI 1) hE d_G_isWall_14 (by decide) ?_
    refine x_goto hE d_G_isWall_15 ?_
    rw [xb_test ht, hW t ht] at h
    have h2 : W t = true := by simpa using h
    exact x_zret hc d_G_isWall_19 (by first | exact Or.inl rfl | exact Or.inr rfl | assumption | omega) (⟨by rw [h2]; rfl, rfl⟩)
theorem k_G_build {W : Nat → Bool} (hW : xc_W W σ) {t : Nat} (ht : t < 64) {b : Int32} : xk_M (xc G) 1 y_G_build [.ref (xk_wA (xc G) 1), .int (nI t), .int b] σ (xk_pv (fun τ => xc_W (am_set W t (decide (b ≠ 0))) τ ∧ τ.1 = σ.1)) := by
  refine xk_enter (by decide) (Nat.le_of_ble_eq_true rfl) (fun K hE hc => ?_)
  show xk_X K _ _ 0 [(0, _), (1, _), (2, _)] []
  refine x_aload_n hE d_G_build_0 0 rfl ?_
  refine x_iload_n hE d_G_build_1 2 rfl ?_
  refine x_if_eq hE d_G_build_2 (fun h => ?_) (fun h => ?_)
  · skip
    refine x_aload_n hE d_G_build_17 0 rfl ?_
    refine gf_G_21 hc d_G_build_18 rfl ?_
    refine x_iload_n hE d_G_build_21 1 rfl ?_
    refine ca_G_25 hc d_G_build_22 (k_G_bit) (fun r τ hq => ?_)
    obtain ⟨rfl, rfl⟩ := hq
    refine xl_G_29 hc d_G_build_25 ?_
    refine x_lxor hE d_G_build_28 ?_
    refine x_land hE d_G_build_29 ?_
    refine pf_G_21 hc d_G_build_30 ?_
    refine x_ret hc d_G_build_33 ⟨fun i hi => ?_, rfl⟩
    have e : (xk_upL σ 1 0 (σ.2 1 0 &&& (xb_b (nI t) ^^^ -1))).2 1 0 = σ.2 1 0 &&& (xb_b (nI t) ^^^ -1) := by simp [xk_upL]
    rw [e, xb_and, xb_not _ hi, xb_bit t ht i hi, hW i hi]
    by_cases hit : i = t
    · subst hit; rw [am_set_s]; simp [h]
    · rw [am_set_n hit]; simp [hit]
  · skip
    refine x_aload_n hE d_G_build_5 0 rfl ?_
    refine gf_G_21 hc d_G_build_6 rfl ?_
    refine x_iload_n hE d_G_build_9 1 rfl ?_
    refine ca_G_25 hc d_G_build_10 (k_G_bit) (fun r τ hq => ?_)
    obtain ⟨rfl, rfl⟩ := hq
    refine x_lor hE d_G_build_13 ?_
    refine x_goto hE d_G_build_14 ?_
    refine pf_G_21 hc d_G_build_30 ?_
    refine x_ret hc d_G_build_33 ⟨fun i hi => ?_, rfl⟩
    have e : (xk_upL σ 1 0 (σ.2 1 0 ||| xb_b (nI t))).2 1 0 = σ.2 1 0 ||| xb_b (nI t) := by simp [xk_upL]
    rw [e, xb_or, xb_bit t ht i hi, hW i hi]
    by_cases hit : i = t
    · subst hit; rw [am_set_s]; simp [h]
    · rw [am_set_n hit]; simp [hit]
theorem k_G_distance {a b : Nat} (ha : a < 64) (hb : b < 64) : xk_M (xc G) 1 y_G_distance [.int (nI a), .int (nI b)] σ (xk_pi (fun r τ => r = nI (am_dist a b) ∧ σ = τ)) := by
  refine xk_enter (by decide) (Nat.le_of_ble_eq_true rfl) (fun K hE hc => ?_)
  show xk_X K _ _ 0 [(0, _), (1, _)] []
  refine x_iload_n hE d_G_distance_0 0 rfl ?_
  refine x_bipush (nI 8) hE d_G_distance_1 (by decide) ?_
  first | refine xn_irem hE d_G_distance_3 ?_ | refine x_irem hE d_G_distance_3 (by decide) ?_
  refine x_iload_n hE d_G_distance_4 1 rfl ?_
  refine x_bipush (nI 8) hE d_G_distance_5 (by decide) ?_
  first | refine xn_irem hE d_G_distance_7 ?_ | refine x_irem hE d_G_distance_7 (by decide) ?_
  refine x_isub hE d_G_distance_8 ?_
  refine xj_G_41 hc d_G_distance_9 ?_
  rw [xj_dif (by omega) (by omega)]
  refine x_iload_n hE d_G_distance_12 0 rfl ?_
  refine x_bipush (nI 8) hE d_G_distance_13 (by decide) ?_
  first | refine xn_idiv hE d_G_distance_15 ?_ | refine x_idiv hE d_G_distance_15 (by decide) ?_
  refine x_iload_n hE d_G_distance_16 1 rfl ?_
  refine x_bipush (nI 8) hE d_G_distance_17 (by decide) ?_
  first | refine xn_idiv hE d_G_distance_19 ?_ | refine x_idiv hE d_G_distance_19 (by decide) ?_
  refine x_isub hE d_G_distance_20 ?_
  refine xj_G_41 hc d_G_distance_21 ?_
  rw [xj_dif (by omega) (by omega)]
  first | refine xn_iadd hE d_G_distance_24 ?_ | refine x_iadd hE d_G_distance_24 ?_
  exact x_iret hc d_G_distance_25 (⟨rfl, rfl⟩)
/-- a tile, or none -/
def xc_o (o : Option Nat) : Int32 := match o with
  | none => -1
  | some t => nI t
theorem k_G_beside {t d : Nat} (ht : t < 64) (hd : d < 4) : xk_M (xc G) 0 y_G_beside [.int (nI t), .int (nI d)] σ (xk_pi (fun r τ => r = xc_o (am_beside t d) ∧ σ = τ)) := by
  refine xk_enter (by decide) (Nat.le_of_ble_eq_true rfl) (fun K hE hc => ?_)
  show xk_X K _ _ 0 [(0, _), (1, _)] []
  refine x_iload_n hE d_G_beside_0 1 rfl ?_
  have hcase : d = 0 ∨ d = 1 ∨ d = 2 ∨ d = 3 := by omega
  rcases hcase with rfl | rfl | rfl | rfl
  · refine x_tabIn hE d_G_beside_1 (x := nI 0) (off := 27) (tgt := 28) (by decide) (by decide) (by decide) (by decide) ?_
    refine x_iload_n hE d_G_beside_28 0 rfl ?_
    refine x_bipush (nI 8) hE d_G_beside_29 (by decide) ?_
    first | refine xn_icmp_lt hE d_G_beside_31 (fun h => ?_) (fun h => ?_) | refine x_icmp_lt hE d_G_beside_31 (fun h => ?_) (fun h => ?_)
    · skip
      refine x_iconst (-1) hE d_G_beside_41 (by decide) ?_
      exact x_iret hc d_G_beside_42 (⟨by simp [am_beside, xc_o, show ¬ 8 ≤ t by omega], rfl⟩)
    · skip
      refine x_iload_n hE d_G_beside_34 0 rfl ?_
      refine x_bipush (nI 8) hE d_G_beside_35 (by decide) ?_
      first | refine xn_isub hE d_G_beside_37 ?_ | refine x_isub hE d_G_beside_37 ?_
      refine x_goto hE d_G_beside_38 ?_
      exact x_iret hc d_G_beside_42 (⟨by simp [am_beside, xc_o, show 8 ≤ t by omega], rfl⟩)
  · refine x_tabIn hE d_G_beside_1 (x := nI 1) (off := 42) (tgt := 43) (by decide) (by decide) (by decide) (by decide) ?_
    refine x_iload_n hE d_G_beside_43 0 rfl ?_
    refine x_bipush (nI 8) hE d_G_beside_44 (by decide) ?_
    first | refine xn_irem hE d_G_beside_46 ?_ | refine x_irem hE d_G_beside_46 (by decide) ?_
    refine x_bipush (nI 7) hE d_G_beside_47 (by decide) ?_
    first | refine xn_icmp_ge hE d_G_beside_49 (fun h => ?_) (fun h => ?_) | refine x_icmp_ge hE d_G_beside_49 (fun h => ?_) (fun h => ?_)
    · skip
      refine x_iconst (-1) hE d_G_beside_58 (by decide) ?_
      exact x_iret hc d_G_beside_59 (⟨by simp [am_beside, xc_o, show ¬ t % 8 < 7 by omega], rfl⟩)
    · skip
      refine x_iload_n hE d_G_beside_52 0 rfl ?_
      refine x_iconst (nI 1) hE d_G_beside_53 (by decide) ?_
      first | refine xn_iadd hE d_G_beside_54 ?_ | refine x_iadd hE d_G_beside_54 ?_
      refine x_goto hE d_G_beside_55 ?_
      exact x_iret hc d_G_beside_59 (⟨by simp [am_beside, xc_o, show t % 8 < 7 by omega], rfl⟩)
  · refine x_tabIn hE d_G_beside_1 (x := nI 2) (off := 59) (tgt := 60) (by decide) (by decide) (by decide) (by decide) ?_
    refine x_iload_n hE d_G_beside_60 0 rfl ?_
    refine x_bipush (nI 56) hE d_G_beside_61 (by decide) ?_
    first | refine xn_icmp_ge hE d_G_beside_63 (fun h => ?_) (fun h => ?_) | refine x_icmp_ge hE d_G_beside_63 (fun h => ?_) (fun h => ?_)
    · skip
      refine x_iconst (-1) hE d_G_beside_73 (by decide) ?_
      exact x_iret hc d_G_beside_74 (⟨by simp [am_beside, xc_o, show ¬ t < 56 by omega], rfl⟩)
    · skip
      refine x_iload_n hE d_G_beside_66 0 rfl ?_
      refine x_bipush (nI 8) hE d_G_beside_67 (by decide) ?_
      first | refine xn_iadd hE d_G_beside_69 ?_ | refine x_iadd hE d_G_beside_69 ?_
      refine x_goto hE d_G_beside_70 ?_
      exact x_iret hc d_G_beside_74 (⟨by simp [am_beside, xc_o, show t < 56 by omega], rfl⟩)
  · refine x_tabOut hE d_G_beside_1 (x := nI 3) (tgt := 75) (Or.inr (by decide)) (by decide) ?_
    refine x_iload_n hE d_G_beside_75 0 rfl ?_
    refine x_bipush (nI 8) hE d_G_beside_76 (by decide) ?_
    first | refine xn_irem hE d_G_beside_78 ?_ | refine x_irem hE d_G_beside_78 (by decide) ?_
    first | refine xn_if_le hE d_G_beside_79 (fun h => ?_) (fun h => ?_) | refine x_if_le hE d_G_beside_79 (fun h => ?_) (fun h => ?_)
    · skip
      refine x_iconst (-1) hE d_G_beside_88 (by decide) ?_
      exact x_iret hc d_G_beside_89 (⟨by simp [am_beside, xc_o, show ¬ 0 < t % 8 by omega], rfl⟩)
    · skip
      refine x_iload_n hE d_G_beside_82 0 rfl ?_
      refine x_iconst (nI 1) hE d_G_beside_83 (by decide) ?_
      first | refine xn_isub hE d_G_beside_84 ?_ | refine x_isub hE d_G_beside_84 ?_
      refine x_goto hE d_G_beside_85 ?_
      exact x_iret hc d_G_beside_89 (⟨by simp [am_beside, xc_o, show 0 < t % 8 by omega], rfl⟩)
end XGr
end
section
/-! GROUND: the search, and the way that it found -/
theorem nI_m1 {t : Nat} (h : t < 2 ^ 31) : ¬ nI t = -1 := by
  intro q
  have h1 := nI_toInt h
  rw [q] at h1
  have h2 : (-1 : Int32).toInt = -1 := by decide
  omega
def xc_dp (s : am_B) (t : Nat) : Int32 := if s.2.2.1 t = none then -1 else nI (s.2.2.2 t)
theorem xc_dp_n {s : am_B} {t : Nat} (h : s.2.2.1 t = none) : xc_dp s t = -1 := by unfold xc_dp; rw [if_pos h]
theorem xc_dp_s {s : am_B} {t : Nat} (h : s.2.2.1 t ≠ none) : xc_dp s t = nI (s.2.2.2 t) := by unfold xc_dp; rw [if_neg h]
/-- the rows of the search hold what the model's search holds -/
def xs_R (a : Nat) (s : am_B) (τ : xk_St) : Prop := (∀ t, t < 64 → τ.1 4 t = xc_dp s t) ∧ ∀ t x, t ≠ a → s.2.2.1 t = some x → τ.1 3 t = nI x
def xs_F (σ τ : xk_St) : Prop := τ.2 = σ.2 ∧ ∀ k, k ≠ 2 → k ≠ 3 → k ≠ 4 → τ.1 k = σ.1 k
def xs_I (a : Nat) (free : Nat → Bool) (σ : xk_St) (s : am_B) (τ : xk_St) (cl : Int64) : Prop := am_inv a s ∧ (∀ t, t < 64 → xb_t cl t = (!(free t) || (s.2.2.1 t).isSome)) ∧ xs_R a s τ ∧ (∀ i, i < s.2.1 → τ.1 2 i = nI (s.1 i)) ∧ xs_F σ τ
theorem xs_I_new {a x t : Nat} {free : Nat → Bool} {σ τ : xk_St} {s : am_B} {cl : Int64} (h : xs_I a free σ s τ cl) (ht : t < 64) (hn : s.2.2.1 t = none) (hx : s.2.2.1 x ≠ none) :
    xs_I a free σ (am_set s.1 s.2.1 t, s.2.1 + 1, am_set s.2.2.1 t (some x), am_set s.2.2.2 t (s.2.2.2 x + 1)) (xk_up (xk_up (xk_up τ 3 t (nI x)) 4 t (nI (s.2.2.2 x + 1))) 2 s.2.1 (nI t)) (cl ||| xb_b (nI t)) := by
  obtain ⟨h1, h2, ⟨h3, h4⟩, h5, h6, h7⟩ := h
  have e4 : ∀ i, (xk_up (xk_up (xk_up τ 3 t (nI x)) 4 t (nI (s.2.2.2 x + 1))) 2 s.2.1 (nI t)).1 4 i = if i = t then nI (s.2.2.2 x + 1) else τ.1 4 i := fun i => by
    rw [xk_up_o (show 4 ≠ 2 by decide), xk_up_s, xk_up_o (show 4 ≠ 3 by decide)]
  have e3 : ∀ i, (xk_up (xk_up (xk_up τ 3 t (nI x)) 4 t (nI (s.2.2.2 x + 1))) 2 s.2.1 (nI t)).1 3 i = if i = t then nI x else τ.1 3 i := fun i => by
    rw [xk_up_o (show 3 ≠ 2 by decide), xk_up_o (show 3 ≠ 4 by decide), xk_up_s]
  have e2 : ∀ i, (xk_up (xk_up (xk_up τ 3 t (nI x)) 4 t (nI (s.2.2.2 x + 1))) 2 s.2.1 (nI t)).1 2 i = if i = s.2.1 then nI t else τ.1 2 i := fun i => by
    rw [xk_up_s, xk_up_o (show 2 ≠ 4 by decide), xk_up_o (show 2 ≠ 3 by decide)]
  refine ⟨am_inv_new h1 ht hn hx, fun i hi => ?_, ⟨fun i hi => ?_, fun i y hia hy => ?_⟩, fun i hi => ?_, h6, fun k k2 k3 k4 => ?_⟩
  · rw [xb_or, xb_bit t ht i hi, h2 i hi]
    show (_ || _) = (!(free i) || (am_set s.2.2.1 t (some x) i).isSome)
    by_cases e : i = t
    · subst e; rw [am_set_s]; simp
    · rw [am_set_n e]; simp [e]
  · rw [e4]
    by_cases e : i = t
    · subst e
      rw [if_pos rfl, xc_dp_s (show am_set s.2.2.1 i (some x) i ≠ none by rw [am_set_s]; simp)]
      show nI _ = nI (am_set s.2.2.2 i (s.2.2.2 x + 1) i)
      rw [am_set_s]
    · rw [if_neg e, h3 i hi]
      unfold xc_dp
      show _ = if am_set s.2.2.1 t (some x) i = none then -1 else nI (am_set s.2.2.2 t (s.2.2.2 x + 1) i)
      rw [am_set_n e, am_set_n e]
  · have hy : am_set s.2.2.1 t (some x) i = some y := hy
    rw [e3]
    by_cases e : i = t
    · subst e
      rw [am_set_s] at hy
      rw [if_pos rfl, Option.some.inj hy]
    · rw [am_set_n e] at hy
      rw [if_neg e, h4 i y hia hy]
  · have hi : i < s.2.1 + 1 := hi
    rw [e2]
    show _ = nI (am_set s.1 s.2.1 t i)
    by_cases e : i = s.2.1
    · subst e; rw [if_pos rfl, am_set_s]
    · rw [if_neg e, am_set_n e, h5 i (by omega)]
  · rw [xk_up_o k2, xk_up_o k4, xk_up_o k3]
    exact h7 k k2 k3 k4
section XSe
variable {G : xk_D} {σ : xk_St}
set_option maxHeartbeats 1000000 in
theorem k_G_search {W Av : Nat → Bool} {a b : Nat} {av : Int64} (hW : xc_W W σ) (hA : ∀ t, t < 64 → xb_t av t = Av t) (ha : a < 64) (hb : b < 64) : xk_M (xc G) 1 y_G_search [.ref (xk_wA (xc G) 1), .int (nI a), .int (nI b), .long av] σ (xk_pi (fun r τ => r = xc_dp (am_end (am_free W Av b) a b) b ∧ xs_R a (am_end (am_free W Av b) a b) τ ∧ xs_F σ τ)) := by
  refine xk_enter (by decide) (Nat.le_of_ble_eq_true rfl) (fun K hE hc => ?_)
  show xk_X K _ _ 0 [(0, _), (1, _), (2, _), (3, _)] []
  refine x_aload_n hE d_G_search_0 0 rfl ?_
  refine gf_G_21 hc d_G_search_1 rfl ?_
  refine x_lload_n hE d_G_search_4 3 rfl ?_
  refine x_iload_n hE d_G_search_5 2 rfl ?_
  refine ca_G_25 hc d_G_search_6 (k_G_bit) (fun r τ hq => ?_)
  obtain ⟨rfl, rfl⟩ := hq
  refine xl_G_29 hc d_G_search_9 ?_
  refine x_lxor hE d_G_search_12 ?_
  refine x_land hE d_G_search_13 ?_
  refine x_lor hE d_G_search_14 ?_
  refine x_iload_n hE d_G_search_15 1 rfl ?_
  refine ca_G_25 hc d_G_search_16 (k_G_bit) (fun r τ hq => ?_)
  obtain ⟨rfl, rfl⟩ := hq
  refine x_lor hE d_G_search_19 ?_
  refine x_lstore [(5, _), (0, _), (1, _), (2, _), (3, _)] hE d_G_search_20 (by decide) rfl ?_
  refine x_aload_n hE d_G_search_22 1 rfl ?_
  refine gf_G_18 hc d_G_search_23 ?_
  refine x_iconst (-1) hE d_G_search_26 (by decide) ?_
  refine ca_G_31 hc d_G_search_27 (k_A_fill (k := 4) (n := 64) rfl (by decide)) (fun τ hq => ?_)
  obtain rfl := hq
  refine x_aload_n hE d_G_search_30 1 rfl ?_
  refine gf_G_18 hc d_G_search_31 ?_
  refine x_iload_n hE d_G_search_34 2 rfl ?_
  refine x_iconst (nI 0) hE d_G_search_35 (by decide) ?_
  refine x_iast hc rfl rfl (by omega) (by decide) d_G_search_36 ?_
  refine x_aload_n hE d_G_search_37 1 rfl ?_
  refine gf_G_9 hc d_G_search_38 ?_
  refine x_iconst (nI 0) hE d_G_search_41 (by decide) ?_
  refine x_iload_n hE d_G_search_42 2 rfl ?_
  refine x_iast hc rfl rfl (by omega) (by decide) d_G_search_43 ?_
  refine x_iconst (nI 1) hE d_G_search_44 (by decide) ?_
  refine x_istore [(7, _), (5, _), (0, _), (1, _), (2, _), (3, _)] hE d_G_search_45 (by decide) rfl ?_
  refine x_iconst (nI 0) hE d_G_search_47 (by decide) ?_
  refine x_istore [(8, _), (7, _), (5, _), (0, _), (1, _), (2, _), (3, _)] hE d_G_search_48 (by decide) rfl ?_
  refine x_lv [3, 4, 5, 6, 2, 1, 0] (lv' := [(0, _), (1, _), (2, _), (3, _), (5, _), (7, _), (8, _)]) rfl ?_
  have last : ∀ (s : am_B) (τ : xk_St) (cl : Int64) (m g : Int32), xs_I a (am_free W Av b) σ s τ cl → s = am_end (am_free W Av b) a b → xk_X K (xk_vw (xc G)) τ 179 [(0, .ref (xk_wA (xc G) 1)), (1, .int (nI a)), (2, .int (nI b)), (3, .long av), (5, .long cl), (7, .int m), (8, .int g)] [] := by
    intro s τ cl m g hI hs
    refine x_aload_n hE d_G_search_179 0 rfl ?_
    refine gf_G_18 hc d_G_search_180 ?_
    refine x_iload_n hE d_G_search_183 2 rfl ?_
    refine x_iald hc rfl rfl (by omega) (by decide) d_G_search_184 (hI.2.2.1.1 b hb) ?_
    exact x_iret hc d_G_search_185 (⟨by rw [hs], hs ▸ hI.2.2.1, hI.2.2.2.2⟩)
  have inner : ∀ (m d : Nat) (s s0 : am_B) (x k : Nat) (τ : xk_St) (cl : Int64), d + m = 4 → x < 64 → s = am_exp (am_free W Av b) x s0 d → s.2.2.1 x ≠ none → xs_I a (am_free W Av b) σ s τ cl → k < 64 →
      (∀ (τ : xk_St) (cl : Int64), xs_I a (am_free W Av b) σ (am_exp (am_free W Av b) x s0 4) τ cl → xk_X K (xk_vw (xc G)) τ 50 [(0, .ref (xk_wA (xc G) 1)), (1, .int (nI a)), (2, .int (nI b)), (3, .long av), (5, .long cl), (7, .int (nI (am_exp (am_free W Av b) x s0 4).2.1)), (8, .int (nI (k + 1)))] []) →
      xk_X K (xk_vw (xc G)) τ 86 [(0, .ref (xk_wA (xc G) 1)), (1, .int (nI a)), (2, .int (nI b)), (3, .long av), (5, .long cl), (7, .int (nI s.2.1)), (8, .int (nI k)), (9, .int (nI x)), (10, .int (nI d))] [] := by
    intro m
    induction m with
    | zero =>
      intro d s s0 x k τ cl hd hx hs hne hI hk next
      refine x_iload hE d_G_search_86 8 rfl ?_
      refine x_iconst (nI 4) hE d_G_search_88 (by decide) ?_
      first | refine xn_icmp_ge hE d_G_search_89 (fun h => ?_) (fun h => ?_) | refine x_icmp_ge hE d_G_search_89 (fun h => ?_) (fun h => ?_)
      · skip
        refine x_iinc 6 (nI (_ + 1)) [(8, _), (0, _), (1, _), (2, _), (3, _), (5, _), (7, _), (9, _), (10, _)] hE d_G_search_173 rfl (nI_inc _) (by decide) rfl ?_
        refine x_goto hE d_G_search_176 ?_
        refine x_lv [1, 2, 3, 4, 5, 6, 0] (lv' := [(0, _), (1, _), (2, _), (3, _), (5, _), (7, _), (8, _)]) rfl ?_
        have hd4 : d = 4 := by omega
        subst hd4
        subst hs
        exact next τ cl hI
      · exact absurd h (by omega)
    | succ m ih =>
      intro d s s0 x k τ cl hd hx hs hne hI hk next
      have hmet := am_inv_met hI.1
      have skip : am_try (am_free W Av b) x d s = s → ∀ z : Int32, xk_X K (xk_vw (xc G)) τ 167 [(11, .int z), (0, .ref (xk_wA (xc G) 1)), (1, .int (nI a)), (2, .int (nI b)), (3, .long av), (5, .long cl), (7, .int (nI s.2.1)), (8, .int (nI k)), (9, .int (nI x)), (10, .int (nI d))] [] := by
        intro ht z
        refine x_iinc 9 (nI (_ + 1)) [(10, _), (11, _), (0, _), (1, _), (2, _), (3, _), (5, _), (7, _), (8, _), (9, _)] hE d_G_search_167 rfl (nI_inc _) (by decide) rfl ?_
        refine x_goto hE d_G_search_170 ?_
        refine x_lv [2, 3, 4, 5, 6, 7, 8, 9, 0] (lv' := [(0, _), (1, _), (2, _), (3, _), (5, _), (7, _), (8, _), (9, _), (10, _)]) rfl ?_
        exact ih (d + 1) s s0 x k τ cl (by omega) hx (by rw [am_exp, ← hs, ht]) hne hI hk next
      refine x_iload hE d_G_search_86 8 rfl ?_
      refine x_iconst (nI 4) hE d_G_search_88 (by decide) ?_
      first | refine xn_icmp_ge hE d_G_search_89 (fun h => ?_) (fun h => ?_) | refine x_icmp_ge hE d_G_search_89 (fun h => ?_) (fun h => ?_)
      · exact absurd h (by omega)
      · skip
        refine x_iload hE d_G_search_92 7 rfl ?_
        refine x_iload hE d_G_search_94 8 rfl ?_
        refine ca_G_37 hc d_G_search_96 (k_G_beside hx (show d < 4 by omega)) (fun r τ hq => ?_)
        obtain ⟨rfl, rfl⟩ := hq
        refine x_istore [(11, _), (0, _), (1, _), (2, _), (3, _), (5, _), (7, _), (8, _), (9, _), (10, _)] hE d_G_search_99 (by decide) rfl ?_
        refine x_iload hE d_G_search_101 0 rfl ?_
        refine x_iconst (-1) hE d_G_search_103 (by decide) ?_
        cases hbs : am_beside x d with
        | none =>
          refine x_icmp_eq hE d_G_search_104 (fun h2 => ?_) (fun h2 => ?_)
          · exact skip (by unfold am_try; rw [hbs]) _
          · exact absurd rfl h2
        | some t =>
          have ht := am_beside_lt hx hbs
          show xk_X K _ τ 104 _ [.int (-1), .int (nI t)]
          refine x_icmp_eq hE d_G_search_104 (fun h2 => ?_) (fun h2 => ?_)
          · exact absurd h2 (nI_m1 (by omega))
          · skip
            show xk_X K _ τ 107 [(11, .int (nI t)), (0, _), (1, _), (2, _), (3, _), (5, _), (7, _), (8, _), (9, _), (10, _)] _
            refine x_lload hE d_G_search_107 5 rfl ?_
            refine x_iload hE d_G_search_109 0 rfl ?_
            refine ca_G_25 hc d_G_search_111 (k_G_bit) (fun r τ hq => ?_)
            obtain ⟨rfl, rfl⟩ := hq
            refine x_land hE d_G_search_114 ?_
            refine x_lconst 0 hE d_G_search_115 (by decide) ?_
            refine x_lcmp hE d_G_search_116 ?_
            refine x_if_ne hE d_G_search_117 (fun h3 => ?_) (fun h3 => ?_)
            · rw [xb_test ht, hI.2.1 t ht] at h3
              refine skip ?_ _
              unfold am_try
              rw [hbs]
              simp only []
              rw [if_neg]
              intro z
              rw [z.1, z.2] at h3
              exact h3 (by decide)
            · skip
              rw [xb_test ht, hI.2.1 t ht] at h3
              have hfr : s.2.2.1 t = none := by
                cases hz : s.2.2.1 t with
                | none => rfl
                | some y => rw [hz] at h3; simp at h3
              have hfree : am_free W Av b t = true := by
                cases hz : am_free W Av b t with
                | true => rfl
                | false => rw [hz] at h3; simp at h3
              have hroom := am_inv_room hI.1 ht hfr
              have htry : am_try (am_free W Av b) x d s = (am_set s.1 s.2.1 t, s.2.1 + 1, am_set s.2.2.1 t (some x), am_set s.2.2.2 t (s.2.2.2 x + 1)) := by
                unfold am_try
                rw [hbs]
                simp only []
                rw [if_pos ⟨hfr, hfree⟩]
              have hI2 := xs_I_new hI ht hfr hne
              have h4x : (xk_up τ 3 t (nI x)).1 4 x = nI (s.2.2.2 x) := by
                rw [xk_up_o (show 4 ≠ 3 by decide), hI.2.2.1.1 x hx, xc_dp_s hne]
              refine x_lload hE d_G_search_120 5 rfl ?_
              refine x_iload hE d_G_search_122 0 rfl ?_
              refine ca_G_25 hc d_G_search_124 (k_G_bit) (fun r τ hq => ?_)
              obtain ⟨rfl, rfl⟩ := hq
              refine x_lor hE d_G_search_127 ?_
              refine x_lstore [(5, _), (11, _), (0, _), (1, _), (2, _), (3, _), (7, _), (8, _), (9, _), (10, _)] hE d_G_search_128 (by decide) rfl ?_
              refine x_aload_n hE d_G_search_130 2 rfl ?_
              refine gf_G_15 hc d_G_search_131 ?_
              refine x_iload hE d_G_search_134 1 rfl ?_
              refine x_iload hE d_G_search_136 8 rfl ?_
              refine x_iast hc rfl rfl (by omega) (by decide) d_G_search_138 ?_
              refine x_aload_n hE d_G_search_139 2 rfl ?_
              refine gf_G_18 hc d_G_search_140 ?_
              refine x_iload hE d_G_search_143 1 rfl ?_
              refine x_aload_n hE d_G_search_145 2 rfl ?_
              refine gf_G_18 hc d_G_search_146 ?_
              refine x_iload hE d_G_search_149 8 rfl ?_
              refine x_iald hc rfl rfl (by omega) (by decide) d_G_search_151 h4x ?_
              refine x_iconst (nI 1) hE d_G_search_152 (by decide) ?_
              first | refine xn_iadd hE d_G_search_153 ?_ | refine x_iadd hE d_G_search_153 ?_
              refine x_iast hc rfl rfl (by omega) (by decide) d_G_search_154 ?_
              refine x_aload_n hE d_G_search_155 2 rfl ?_
              refine gf_G_9 hc d_G_search_156 ?_
              refine x_iload hE d_G_search_159 6 rfl ?_
              refine x_iload hE d_G_search_161 1 rfl ?_
              refine x_iast hc rfl rfl (by omega) (by decide) d_G_search_163 ?_
              refine x_iinc 6 (nI (_ + 1)) [(7, _), (5, _), (11, _), (0, _), (1, _), (2, _), (3, _), (8, _), (9, _), (10, _)] hE d_G_search_164 rfl (nI_inc _) (by decide) rfl ?_
              refine x_iinc 9 (nI (_ + 1)) [(10, _), (7, _), (5, _), (11, _), (0, _), (1, _), (2, _), (3, _), (8, _), (9, _)] hE d_G_search_167 rfl (nI_inc _) (by decide) rfl ?_
              refine x_goto hE d_G_search_170 ?_
              refine x_lv [4, 5, 6, 7, 2, 1, 8, 9, 0] (lv' := [(0, _), (1, _), (2, _), (3, _), (5, _), (7, _), (8, _), (9, _), (10, _)]) rfl ?_
              refine ih (d + 1) _ s0 x k _ _ (by omega) hx (by rw [am_exp, ← hs, htry]) ?_ hI2 hk next
              show am_set s.2.2.1 t (some x) x ≠ none
              rw [am_set_n (fun e => hne (by rw [e]; exact hfr))]
              exact hne
  have outer : ∀ (f k : Nat) (s : am_B) (τ : xk_St) (cl : Int64), k + f = 64 → xs_I a (am_free W Av b) σ s τ cl → am_bfs (am_free W Av b) b f k s = am_end (am_free W Av b) a b → xk_X K (xk_vw (xc G)) τ 50 [(0, .ref (xk_wA (xc G) 1)), (1, .int (nI a)), (2, .int (nI b)), (3, .long av), (5, .long cl), (7, .int (nI s.2.1)), (8, .int (nI k))] [] := by
    intro f
    induction f with
    | zero =>
      intro k s τ cl hk hI he
      refine x_iload hE d_G_search_50 6 rfl ?_
      refine x_bipush (nI 64) hE d_G_search_52 (by decide) ?_
      first | refine xn_icmp_ge hE d_G_search_54 (fun h => ?_) (fun h => ?_) | refine x_icmp_ge hE d_G_search_54 (fun h => ?_) (fun h => ?_)
      · exact last s τ cl _ _ hI he
      · exact absurd h (by omega)
    | succ f ih =>
      intro k s τ cl hk hI he
      have hmet := am_inv_met hI.1
      refine x_iload hE d_G_search_50 6 rfl ?_
      refine x_bipush (nI 64) hE d_G_search_52 (by decide) ?_
      first | refine xn_icmp_ge hE d_G_search_54 (fun h => ?_) (fun h => ?_) | refine x_icmp_ge hE d_G_search_54 (fun h => ?_) (fun h => ?_)
      · exact absurd h (by omega)
      · skip
        refine x_iload hE d_G_search_57 6 rfl ?_
        refine x_iload hE d_G_search_59 5 rfl ?_
        first | refine xn_icmp_ge hE d_G_search_61 (fun h1 => ?_) (fun h1 => ?_) | refine x_icmp_ge hE d_G_search_61 (fun h1 => ?_) (fun h1 => ?_)
        · refine last s τ cl _ _ hI ?_
          rw [am_bfs, if_neg (by omega)] at he
          exact he
        · skip
          refine x_aload_n hE d_G_search_64 0 rfl ?_
          refine gf_G_18 hc d_G_search_65 ?_
          refine x_iload_n hE d_G_search_68 2 rfl ?_
          refine x_iald hc rfl rfl (by omega) (by decide) d_G_search_69 (hI.2.2.1.1 b hb) ?_
          refine x_iconst (-1) hE d_G_search_70 (by decide) ?_
          refine x_icmp_ne hE d_G_search_71 (fun h2 => ?_) (fun h2 => ?_)
          · refine last s τ cl _ _ hI ?_
            rw [am_bfs, if_neg (fun z => h2 (xc_dp_n z.2))] at he
            exact he
          · skip
            have hfb : s.2.2.1 b = none := by
              cases hz : s.2.2.1 b with
              | none => rfl
              | some y =>
                have h9 : s.2.2.1 b ≠ none := by rw [hz]; simp
                rw [xc_dp_s h9] at h2
                have := (hI.1.2.2.2 b y hz).2.2.2.1
                exact absurd h2 (nI_m1 (by omega))
            obtain ⟨g1, g2⟩ := hI.1.2.2.1 k h1
            refine x_aload_n hE d_G_search_74 0 rfl ?_
            refine gf_G_9 hc d_G_search_75 ?_
            refine x_iload hE d_G_search_78 6 rfl ?_
            refine x_iald hc rfl rfl (by omega) (by decide) d_G_search_80 (hI.2.2.2.1 k h1) ?_
            refine x_istore [(9, _), (0, _), (1, _), (2, _), (3, _), (5, _), (7, _), (8, _)] hE d_G_search_81 (by decide) rfl ?_
            refine x_iconst (nI 0) hE d_G_search_83 (by decide) ?_
            refine x_istore [(10, _), (9, _), (0, _), (1, _), (2, _), (3, _), (5, _), (7, _), (8, _)] hE d_G_search_84 (by decide) rfl ?_
            refine x_lv [2, 3, 4, 5, 6, 7, 8, 1, 0] (lv' := [(0, _), (1, _), (2, _), (3, _), (5, _), (7, _), (8, _), (9, _), (10, _)]) rfl ?_
            refine inner 4 0 s s (s.1 k) k τ cl rfl g1 rfl g2 hI (by omega) (fun τ2 cl2 hI2 => ?_)
            refine ih (k + 1) _ τ2 cl2 (by omega) hI2 ?_
            rw [am_bfs, if_pos ⟨h1, hfb⟩] at he
            exact he
  refine outer 64 0 (am_ini a) _ _ rfl ⟨am_inv_ini ha, fun t ht => ?_, ⟨fun t ht => ?_, fun t x hta hx => ?_⟩, fun i hi => ?_, rfl, fun k k2 k3 k4 => ?_⟩ rfl
  · rw [xb_or, xb_or, xb_and, xb_not _ ht, xb_bit b hb t ht, xb_bit a ha t ht, hW t ht, hA t ht]
    unfold am_free
    show _ = (!(!W t && (decide (t = b) || !Av t)) || (if t = a then some a else none : Option Nat).isSome)
    have e3 : (if t = a then some a else none : Option Nat).isSome = decide (t = a) := by by_cases e : t = a <;> simp [e]
    rw [e3]
    generalize decide (t = b) = p1
    generalize decide (t = a) = p2
    cases W t <;> cases Av t <;> cases p1 <;> cases p2 <;> rfl
  · rw [xk_up_o (show 4 ≠ 2 by decide), xk_up_s]
    unfold xc_dp
    show _ = if (if t = a then some a else none : Option Nat) = none then -1 else nI 0
    by_cases e : t = a
    · simp [e]
    · rw [if_neg e, if_neg e, if_pos rfl]
      simp [xk_row, ht]
  · have hx : (if t = a then some a else none : Option Nat) = some x := hx
    rw [if_neg hta] at hx
    cases hx
  · have hi : i < 1 := hi
    rw [show i = 0 by omega, xk_up_s, if_pos rfl]
    rfl
  · rw [xk_up_o k2, xk_up_o k4]
    exact (xk_row_ne k k4).1
end XSe
end
section
/-! GROUND: the way that the search found -/
section XLp
variable {G : xk_D} {σ : xk_St}
theorem k_G_layPath {a b kr : Nat} {s : am_B} (hs : am_inv a s) (hR : xs_R a s σ) (hb : b < 64) (hfb : s.2.2.1 b ≠ none) (hkr : 33 ≤ kr) (hsh : xc_S[kr]? = some (.inl (0, 64))) : xk_M (xc G) 0 y_G_layPath [.ref (xk_wA (xc G) 1), .int (nI b), .ref (xk_wA (xc G) kr)] σ (xk_pv (fun τ => τ.2 = σ.2 ∧ (∀ j, j ≠ kr → τ.1 j = σ.1 j) ∧ ∀ i (h : i < (am_chain s.2.2.1 (s.2.2.2 b) b).length), τ.1 kr i = nI ((am_chain s.2.2.1 (s.2.2.2 b) b)[i]))) := by
  have hmet := am_inv_met hs
  refine xk_enter (by decide) (Nat.le_of_ble_eq_true rfl) (fun K hE hc => ?_)
  show xk_X K _ _ 0 [(0, _), (1, _), (2, _)] []
  refine x_iload_n hE d_G_layPath_0 1 rfl ?_
  refine x_istore_n [(3, _), (0, _), (1, _), (2, _)] hE d_G_layPath_1 rfl (by decide) rfl ?_
  refine x_aload_n hE d_G_layPath_2 1 rfl ?_
  refine gf_G_18 hc d_G_layPath_3 ?_
  refine x_iload_n hE d_G_layPath_6 2 rfl ?_
  refine x_iald hc rfl rfl (by omega) (by decide) d_G_layPath_7 (show _ = nI (s.2.2.2 b) by rw [hR.1 b hb, xc_dp_s hfb]) ?_
  refine x_iconst (nI 1) hE d_G_layPath_8 (by decide) ?_
  refine x_isub hE d_G_layPath_9 ?_
  refine x_istore [(4, _), (3, _), (0, _), (1, _), (2, _)] hE d_G_layPath_10 (by decide) rfl ?_
  refine x_lv [2, 3, 4, 1, 0] (lv' := [(0, _), (1, _), (2, _), (3, _), (4, _)]) rfl ?_
  have loop : ∀ (m t : Nat) (suf : List Nat) (τ : xk_St), s.2.2.1 t ≠ none → s.2.2.2 t = m → am_chain s.2.2.1 (s.2.2.2 b) b = am_chain s.2.2.1 m t ++ suf → τ.2 = σ.2 → (∀ j, j ≠ kr → τ.1 j = σ.1 j) → (∀ i (h : i < suf.length), τ.1 kr (m + i) = nI (suf[i])) → xk_X K (xk_vw (xc G)) τ 12 [(0, .ref (xk_wA (xc G) 1)), (1, .int (nI b)), (2, .ref (xk_wA (xc G) kr)), (3, .int (nI t)), (4, .int (nI m + Int32.ofInt (-1)))] [] := by
    intro m
    induction m with
    | zero =>
      intro t suf τ ht hm hc1 h2 ho hw
      refine x_iload hE d_G_layPath_12 4 rfl ?_
      refine x_if_lt hE d_G_layPath_14 (fun h => ?_) (fun h => ?_)
      · skip
        refine x_ret hc d_G_layPath_35 ⟨h2, ho, fun i hi => ?_⟩
        have hi2 : i < suf.length := by
          rw [hc1] at hi
          simpa [am_chain] using hi
        have h3 := hw i hi2
        rw [Nat.zero_add] at h3
        rw [h3]
        congr 1
        simp [hc1, am_chain]
      · exact absurd (by decide) h
    | succ m ih =>
      intro t suf τ ht hm hc1 h2 ho hw
      obtain ⟨x, hx⟩ := Option.ne_none_iff_exists'.mp ht
      obtain ⟨g1, g2, g3, g4, g5⟩ := hs.2.2.2 t x hx
      have hta : t ≠ a ∧ s.2.2.2 x = m := by
        rcases g5 with ⟨-, -, g6⟩ | ⟨g6, g7⟩
        · omega
        · exact ⟨g6, by omega⟩
      have e : nI (m + 1) + Int32.ofInt (-1) = nI m := nI_dec (m + 1) (by omega)
      rw [e]
      refine x_iload hE d_G_layPath_12 4 rfl ?_
      first | refine xn_if_lt hE d_G_layPath_14 (fun h => ?_) (fun h => ?_) | refine x_if_lt hE d_G_layPath_14 (fun h => ?_) (fun h => ?_)
      · exact absurd h (by first | exact not_false | exact nI_pos (by omega))
      · skip
        refine x_aload_n hE d_G_layPath_17 2 rfl ?_
        refine x_iload hE d_G_layPath_18 4 rfl ?_
        refine x_iload_n hE d_G_layPath_20 3 rfl ?_
        refine x_iast hc hsh rfl (by omega) (by decide) d_G_layPath_21 ?_
        refine x_aload_n hE d_G_layPath_22 0 rfl ?_
        refine gf_G_15 hc d_G_layPath_23 ?_
        refine x_iload_n hE d_G_layPath_26 3 rfl ?_
        refine x_iald hc rfl rfl (by omega) (by decide) d_G_layPath_27 (show _ = nI x by rw [xk_up_o (show 3 ≠ kr by omega), ho 3 (by omega)]; exact hR.2 t x hta.1 hx) ?_
        refine x_istore_n [(3, _), (0, _), (1, _), (2, _), (4, _)] hE d_G_layPath_28 rfl (by decide) rfl ?_
        refine x_iinc 4 _ [(4, _), (3, _), (0, _), (1, _), (2, _)] hE d_G_layPath_29 rfl rfl (by decide) rfl ?_
        refine x_goto hE d_G_layPath_32 ?_
        refine x_lv [2, 3, 4, 1, 0] (lv' := [(0, _), (1, _), (2, _), (3, _), (4, _)]) rfl ?_
        refine ih x (t :: suf) _ g3 hta.2 ?_ h2 (fun j hj => by rw [xk_up_o hj]; exact ho j hj) (fun i hi => ?_)
        · rw [hc1, am_chain, hx]
          simp
        · rw [xk_up_s]
          cases i with
          | zero => simp
          | succ i =>
            rw [if_neg (by omega)]
            have h3 := hw i (by simpa using hi)
            rw [show m + 1 + i = m + (i + 1) by omega] at h3
            rw [h3]
            rfl
  have e0 : nI (s.2.2.2 b) - nI 1 = nI (s.2.2.2 b) + Int32.ofInt (-1) := by rw [Int32.sub_eq_add_neg]; rfl
  rw [e0]
  exact loop (s.2.2.2 b) b [] σ hfb rfl (by simp) rfl (fun _ _ => rfl) (fun i hi => absurd hi (Nat.not_lt_zero _))
end XLp
end
section
/-! LOG -/
def xc_L (cnt : Nat) (L : am_L) (σ : xk_St) : Prop := σ.1 5 4 = nI cnt ∧ ∀ e, e < cnt → σ.1 6 e = (L e).1 ∧ σ.1 7 e = nI (L e).2.1 ∧ σ.1 8 e = nI (L e).2.2.1 ∧ σ.1 9 e = nI (L e).2.2.2
def xc_fL (σ τ : xk_St) : Prop := τ.2 = σ.2 ∧ ∀ k, k < 5 ∨ 9 < k → τ.1 k = σ.1 k
def am_del (L : am_L) (k : Nat) : am_L := fun e => if e < k then L e else L (e + 1)
section XLg
variable {G : xk_D} {σ : xk_St}
theorem k_L_add {cnt u kd m : Nat} {L : am_L} {t av : Int32} (h : xc_L cnt L σ) (hcnt : cnt < 24) (hkd : kd ≤ 2) (hav : kd ≠ 0 → av = nI m) : xk_M (xc G) 0 y_L_add [.ref (xk_wA (xc G) 5), .int t, .int (nI u), .int (nI kd), .int av] σ (xk_pi (fun r τ => r = nI cnt ∧ xc_L (cnt + 1) (am_set L cnt (t, u, kd, if kd = 0 then 0 else m)) τ ∧ xc_fL σ τ)) := by
  obtain ⟨h1, h2⟩ := h
  have rest : ∀ (K : xk_K) (v : Int32), v = nI (if kd = 0 then 0 else m) → xk_E K c_L_add 5 → xk_H K (xc G) c_L_add 5 RL 0 (some .int) (xk_pi (fun r τ => r = nI cnt ∧ xc_L (cnt + 1) (am_set L cnt (t, u, kd, if kd = 0 then 0 else m)) τ ∧ xc_fL σ τ)) →
      xk_X K (xk_vw (xc G)) (xk_up (xk_up (xk_up σ 6 cnt t) 7 cnt (nI u)) 8 cnt (nI kd)) 48 [(0, .ref (xk_wA (xc G) 5)), (1, .int t), (2, .int (nI u)), (3, .int (nI kd)), (4, .int av)] [.int v, .int (nI cnt), .ref (xk_wA (xc G) 9)] := by
    intro K v hv hE hc
    refine x_iast hc rfl rfl (by omega) (by decide) d_L_add_48 ?_
    refine x_aload_n hE d_L_add_49 0 rfl ?_
    refine x_dup hE d_L_add_50 rfl ?_
    refine gf_L_24 hc d_L_add_51 (show _ = nI cnt by rw [xk_up_o (by decide), xk_up_o (by decide), xk_up_o (by decide), xk_up_o (by decide)]; exact h1) ?_
    refine x_iconst (nI 1) hE d_L_add_54 (by decide) ?_
    first | refine xn_iadd hE d_L_add_55 ?_ | refine x_iadd hE d_L_add_55 ?_
    refine pf_L_24 hc d_L_add_56 ?_
    refine x_aload_n hE d_L_add_59 0 rfl ?_
    refine gf_L_24 hc d_L_add_60 (by rw [xk_up_s, if_pos rfl]) ?_
    refine x_iconst (nI 1) hE d_L_add_63 (by decide) ?_
    first | refine xn_isub hE d_L_add_64 ?_ | refine x_isub hE d_L_add_64 ?_
    refine x_iret hc d_L_add_65 ⟨by congr 1, ⟨?_, fun e he => ?_⟩, rfl, fun k hk => ?_⟩
    · rw [xk_up_s, if_pos rfl]
    · simp (disch := omega) only [xk_up_s, xk_up_o]
      by_cases hec : e = cnt
      · subst hec
        rw [am_set_s]
        simp [hv]
      · rw [am_set_n hec, if_neg hec, if_neg hec, if_neg hec, if_neg hec]
        exact h2 e (by omega)
    · rw [xk_up_o (by omega), xk_up_o (by omega), xk_up_o (by omega), xk_up_o (by omega), xk_up_o (by omega)]
  refine xk_enter (by decide) (Nat.le_of_ble_eq_true rfl) (fun K hE hc => ?_)
  show xk_X K _ _ 0 [(0, _), (1, _), (2, _), (3, _), (4, _)] []
  refine x_aload_n hE d_L_add_0 0 rfl ?_
  refine gf_L_9 hc d_L_add_1 ?_
  refine x_aload_n hE d_L_add_4 0 rfl ?_
  refine gf_L_24 hc d_L_add_5 h1 ?_
  refine x_iload_n hE d_L_add_8 1 rfl ?_
  refine x_iast hc rfl rfl (by omega) (by decide) d_L_add_9 ?_
  refine x_aload_n hE d_L_add_10 0 rfl ?_
  refine gf_L_15 hc d_L_add_11 ?_
  refine x_aload_n hE d_L_add_14 0 rfl ?_
  refine gf_L_24 hc d_L_add_15 (show _ = nI cnt by rw [xk_up_o (by decide)]; exact h1) ?_
  refine x_iload_n hE d_L_add_18 2 rfl ?_
  refine x_iast hc rfl rfl (by omega) (by decide) d_L_add_19 ?_
  refine x_aload_n hE d_L_add_20 0 rfl ?_
  refine gf_L_18 hc d_L_add_21 ?_
  refine x_aload_n hE d_L_add_24 0 rfl ?_
  refine gf_L_24 hc d_L_add_25 (show _ = nI cnt by rw [xk_up_o (by decide), xk_up_o (by decide)]; exact h1) ?_
  refine x_iload_n hE d_L_add_28 3 rfl ?_
  refine x_iast hc rfl rfl (by omega) (by decide) d_L_add_29 ?_
  refine x_aload_n hE d_L_add_30 0 rfl ?_
  refine gf_L_21 hc d_L_add_31 ?_
  refine x_aload_n hE d_L_add_34 0 rfl ?_
  refine gf_L_24 hc d_L_add_35 (show _ = nI cnt by rw [xk_up_o (by decide), xk_up_o (by decide), xk_up_o (by decide)]; exact h1) ?_
  refine x_iload_n hE d_L_add_38 3 rfl ?_
  first | refine xn_if_ne hE d_L_add_39 (fun h => ?_) (fun h => ?_) | refine x_if_ne hE d_L_add_39 (fun h => ?_) (fun h => ?_)
  · skip
    refine x_iload hE d_L_add_46 4 rfl ?_
    exact rest K _ (by rw [if_neg h]; exact hav h) hE hc
  · skip
    refine x_iconst (nI 0) hE d_L_add_42 (by decide) ?_
    refine x_goto hE d_L_add_43 ?_
    exact rest K _ (by rw [if_pos h]) hE hc
theorem k_L_closeGap {cnt j c : Nat} (hsh : xc_S[c]? = some (.inl (0, 24))) (h1 : σ.1 5 4 = nI cnt) (hcnt : cnt ≤ 24) (hj : j < cnt) : xk_M (xc G) 1 y_L_closeGap [.ref (xk_wA (xc G) 5), .ref (xk_wA (xc G) c), .int (nI j)] σ (xk_pv (fun τ => τ = xk_row σ c (va_cpy (σ.1 c) (σ.1 c) (j + 1) j (cnt - j - 1)))) := by
  refine xk_enter (by decide) (Nat.le_of_ble_eq_true rfl) (fun K hE hc => ?_)
  show xk_X K _ _ 0 [(0, _), (1, _), (2, _)] []
  refine x_aload_n hE d_L_closeGap_0 1 rfl ?_
  refine x_iload_n hE d_L_closeGap_1 2 rfl ?_
  refine x_iconst (nI 1) hE d_L_closeGap_2 (by decide) ?_
  first | refine xn_iadd hE d_L_closeGap_3 ?_ | refine x_iadd hE d_L_closeGap_3 ?_
  refine x_aload_n hE d_L_closeGap_4 1 rfl ?_
  refine x_iload_n hE d_L_closeGap_5 2 rfl ?_
  refine x_aload_n hE d_L_closeGap_6 0 rfl ?_
  refine gf_L_24 hc d_L_closeGap_7 h1 ?_
  refine x_iload_n hE d_L_closeGap_10 2 rfl ?_
  first | refine xn_isub hE d_L_closeGap_11 ?_ | refine x_isub hE d_L_closeGap_11 ?_
  refine x_iconst (nI 1) hE d_L_closeGap_12 (by decide) ?_
  first | refine xn_isub hE d_L_closeGap_13 ?_ | refine x_isub hE d_L_closeGap_13 ?_
  refine xj_L_32 hc hsh (by omega) (by omega) (by decide) d_L_closeGap_14 (by decide) ?_
  exact x_ret hc d_L_closeGap_17 rfl
theorem xk_row_s (σ : xk_St) (k b : Nat) (f : Nat → Int32) : (xk_row σ k f).1 k b = f b := by simp [xk_row]
theorem xk_row_o {σ : xk_St} {k i : Nat} {f : Nat → Int32} (h : i ≠ k) : (xk_row σ k f).1 i = σ.1 i := (xk_row_ne i h).1
theorem k_L_remove {cnt j : Nat} {L : am_L} (h : xc_L cnt L σ) (hcnt : cnt ≤ 24) (hj : j < cnt) : xk_M (xc G) 2 y_L_remove [.ref (xk_wA (xc G) 5), .int (nI j)] σ (xk_pv (fun τ => xc_L (cnt - 1) (am_del L j) τ ∧ xc_fL σ τ)) := by
  obtain ⟨h1, h2⟩ := h
  refine xk_enter (by decide) (Nat.le_of_ble_eq_true rfl) (fun K hE hc => ?_)
  show xk_X K _ _ 0 [(0, _), (1, _)] []
  refine x_aload_n hE d_L_remove_0 0 rfl ?_
  refine x_aload_n hE d_L_remove_1 0 rfl ?_
  refine gf_L_9 hc d_L_remove_2 ?_
  refine x_iload_n hE d_L_remove_5 1 rfl ?_
  refine ca_L_28 hc d_L_remove_6 (k_L_closeGap (c := 6) rfl h1 hcnt hj) (fun τ hq => ?_)
  obtain rfl := hq
  refine x_aload_n hE d_L_remove_9 0 rfl ?_
  refine x_aload_n hE d_L_remove_10 0 rfl ?_
  refine gf_L_15 hc d_L_remove_11 ?_
  refine x_iload_n hE d_L_remove_14 1 rfl ?_
  refine ca_L_28 hc d_L_remove_15 (k_L_closeGap (c := 7) (cnt := cnt) rfl (by rw [xk_row_o (by decide)]; exact h1) hcnt hj) (fun τ hq => ?_)
  obtain rfl := hq
  refine x_aload_n hE d_L_remove_18 0 rfl ?_
  refine x_aload_n hE d_L_remove_19 0 rfl ?_
  refine gf_L_18 hc d_L_remove_20 ?_
  refine x_iload_n hE d_L_remove_23 1 rfl ?_
  refine ca_L_28 hc d_L_remove_24 (k_L_closeGap (c := 8) (cnt := cnt) rfl (by rw [xk_row_o (by decide), xk_row_o (by decide)]; exact h1) hcnt hj) (fun τ hq => ?_)
  obtain rfl := hq
  refine x_aload_n hE d_L_remove_27 0 rfl ?_
  refine x_aload_n hE d_L_remove_28 0 rfl ?_
  refine gf_L_21 hc d_L_remove_29 ?_
  refine x_iload_n hE d_L_remove_32 1 rfl ?_
  refine ca_L_28 hc d_L_remove_33 (k_L_closeGap (c := 9) (cnt := cnt) rfl (by rw [xk_row_o (by decide), xk_row_o (by decide), xk_row_o (by decide)]; exact h1) hcnt hj) (fun τ hq => ?_)
  obtain rfl := hq
  refine x_aload_n hE d_L_remove_36 0 rfl ?_
  refine x_dup hE d_L_remove_37 rfl ?_
  refine gf_L_24 hc d_L_remove_38 (show _ = nI cnt by rw [xk_row_o (by decide), xk_row_o (by decide), xk_row_o (by decide), xk_row_o (by decide)]; exact h1) ?_
  refine x_iconst (nI 1) hE d_L_remove_41 (by decide) ?_
  first | refine xn_isub hE d_L_remove_42 ?_ | refine x_isub hE d_L_remove_42 ?_
  refine pf_L_24 hc d_L_remove_43 ?_
  have key : ∀ f : Nat → Int32, ∀ e, e < cnt - 1 → va_cpy f f (j + 1) j (cnt - j - 1) e = f (if e < j then e else e + 1) := by
    intro f e he
    by_cases hej : e < j
    · rw [pk_cpy_out (by omega), if_pos hej]
    · rw [pk_cpy_in (by omega) (by omega), if_neg hej]
      congr 1
      omega
  refine x_ret hc d_L_remove_46 ⟨⟨?_, fun e he => ?_⟩, rfl, fun k hk => ?_⟩
  · rw [xk_up_s, if_pos rfl]
  · simp (disch := omega) only [xk_up_o, xk_row_s, xk_row_o]
    rw [key _ e he, key _ e he, key _ e he, key _ e he]
    unfold am_del
    by_cases hej : e < j
    · rw [if_pos hej, if_pos hej]
      exact h2 e (by omega)
    · rw [if_neg hej, if_neg hej]
      exact h2 (e + 1) (by omega)
  · rw [xk_up_o (by omega), xk_row_o (by omega), xk_row_o (by omega), xk_row_o (by omega), xk_row_o (by omega)]
end XLg
end
section
/-! PLAY: reads, and what one unit does -/
/-- but for one unit's rows, and those of the search, nothing has changed -/
def xc_one (p u : Nat) (σ τ : xk_St) : Prop := τ.2 = σ.2 ∧ (∀ k, ¬ (k = 2 ∨ k = 3 ∨ k = 4 ∨ k = 17 + 8 * p + u ∨ k = 33 + 8 * p + u) → τ.1 k = σ.1 k) ∧ τ.1 (17 + 8 * p + u) 0 = σ.1 (17 + 8 * p + u) 0 ∧ τ.1 (17 + 8 * p + u) 1 = σ.1 (17 + 8 * p + u) 1
theorem xc_one.rf {p u : Nat} {σ : xk_St} : xc_one p u σ σ := ⟨rfl, fun _ _ => rfl, rfl, rfl⟩
theorem xc_one.tr {p u : Nat} {σ τ υ : xk_St} (h : xc_one p u σ τ) (g : xc_one p u τ υ) : xc_one p u σ υ := ⟨g.1.trans h.1, fun k hk => (g.2.1 k hk).trans (h.2.1 k hk), g.2.2.1.trans h.2.2.1, g.2.2.2.trans h.2.2.2⟩
theorem xc_own.one {p u : Nat} {σ τ : xk_St} (h : xc_own (17 + 8 * p + u) σ τ) : xc_one p u σ τ := ⟨h.1, fun k hk => h.2.1 k (by omega), h.2.2.1, h.2.2.2⟩
theorem xc_one.fr {p u : Nat} {σ τ : xk_St} (hu : u < 8) (h : xc_one p u σ τ) : xc_fr p σ τ :=
  ⟨h.1, fun k hk => h.2.1 k (by omega), fun k h1 h2 => by
    by_cases e : k = 17 + 8 * p + u
    · subst e; exact h.2.2
    · rw [h.2.1 k (by omega)]; exact ⟨rfl, rfl⟩⟩
theorem xc_pl.set {p n u : Nat} {P : am_P} {σ τ : xk_St} {x : am_U} (h : xc_pl p n P σ) (hp : p < 2) (hn : n ≤ 8) (hu : u < 8) (hx : xc_at τ (17 + 8 * p + u) x) (ho : xc_one p u σ τ) : xc_pl p n (am_set P u x) τ := by
  refine ⟨by rw [ho.2.1 (10 + 3 * p) (by omega)]; exact h.1, fun v hv => ?_⟩
  by_cases e : v = u
  · subst e; rw [am_set_s]; exact hx
  · rw [am_set_n e]
    have h1 := h.2 v hv
    unfold xc_at at h1 ⊢
    rw [ho.2.1 (17 + 8 * p + v) (by omega), ho.2.1 (17 + 8 * p + v + 16) (by omega)]
    exact h1
theorem am_set_id {α : Type} (f : Nat → α) (k : Nat) : am_set f k (f k) = f := by
  funext j
  by_cases e : j = k
  · subst e; rw [am_set_s]
  · rw [am_set_n e]
theorem am_set_set {α : Type} (f : Nat → α) (k : Nat) (a b : α) : am_set (am_set f k a) k b = am_set f k b := by
  funext j
  by_cases e : j = k
  · subst e; rw [am_set_s, am_set_s]
  · rw [am_set_n e, am_set_n e, am_set_n e]
theorem am_taken_cong {P Q : am_P} {t : Nat} : ∀ n, (∀ u, u < n → am_pts (P u) = am_pts (Q u) ∧ am_til (P u) = am_til (Q u)) → am_taken P t n = am_taken Q t n
  | 0, _ => rfl
  | n + 1, h => by
    simp only [am_taken]
    rw [am_taken_cong n (fun u hu => h u (by omega)), (h n (by omega)).1, (h n (by omega)).2]
theorem am_taken_set {P : am_P} {t u n : Nat} {x : am_U} (h1 : am_pts x = am_pts (P u)) (h2 : am_til x = am_til (P u)) : am_taken (am_set P u x) t n = am_taken P t n := by
  refine am_taken_cong n (fun v _ => ?_)
  by_cases e : v = u
  · subst e; rw [am_set_s]; exact ⟨h1, h2⟩
  · rw [am_set_n e]; exact ⟨rfl, rfl⟩
/-- is there a unit of that number -/
abbrev am_has (n : Nat) (u : Int32) : Prop := ¬ u < 0 ∧ ¬ nI n ≤ u
theorem am_has_of {n : Nat} {u : Int32} (hn : n < 2 ^ 31) (h : am_has n u) : ∃ j, j < n ∧ u = nI j := by
  rcases pk_ix u hn with h1 | h1 | h1
  · exact absurd h1 h.1
  · exact absurd h1 h.2
  · exact h1
theorem am_has_nI {n j : Nat} (hn : n < 2 ^ 31) (h : j < n) : am_has n (nI j) := ⟨nI_pos (by omega), nI_ge h hn⟩
section XPl
variable {G : xk_D} {σ : xk_St} {p n : Nat} {P : am_P}
theorem k_P_has (hp : p < 2) (hc1 : σ.1 (10 + 3 * p) 3 = nI n) {u : Int32} : xk_M (xc G) 0 y_P_has [.ref (xk_wA (xc G) (10 + 3 * p)), .int u] σ (xk_pi (fun r τ => ((r = nI 1 ∧ am_has n u) ∨ (r = nI 0 ∧ ¬ am_has n u)) ∧ σ = τ)) := by
  refine xk_enter (by decide) (Nat.le_of_ble_eq_true rfl) (fun K hE hc => ?_)
  show xk_X K _ _ 0 [(0, _), (1, _)] []
  refine x_iload_n hE d_P_has_0 1 rfl ?_
  refine x_if_lt hE d_P_has_1 (fun h => ?_) (fun h => ?_)
  · skip
    refine x_iconst (nI 0) hE d_P_has_16 (by decide) ?_
    exact x_zret hc d_P_has_17 (by first | exact Or.inl rfl | exact Or.inr rfl | assumption | omega) (⟨Or.inr ⟨rfl, fun z => z.1 h⟩, rfl⟩)
  · skip
    refine x_iload_n hE d_P_has_4 1 rfl ?_
    refine x_aload_n hE d_P_has_5 0 rfl ?_
    refine gf_P_26 hc hp d_P_has_6 hc1 ?_
    refine x_icmp_ge hE d_P_has_9 (fun g => ?_) (fun g => ?_)
    · skip
      refine x_iconst (nI 0) hE d_P_has_16 (by decide) ?_
      exact x_zret hc d_P_has_17 (by first | exact Or.inl rfl | exact Or.inr rfl | assumption | omega) (⟨Or.inr ⟨rfl, fun z => z.2 g⟩, rfl⟩)
    · skip
      refine x_iconst (nI 1) hE d_P_has_12 (by decide) ?_
      refine x_goto hE d_P_has_13 ?_
      exact x_zret hc d_P_has_17 (by first | exact Or.inl rfl | exact Or.inr rfl | assumption | omega) (⟨Or.inl ⟨rfl, h, g⟩, rfl⟩)
/-- one of a side lives among the first u -/
def am_liv (sd : Nat → Nat) (P : am_P) (s : Nat) : Nat → Bool
  | 0 => false
  | u + 1 => am_liv sd P s u || (decide (sd u = s) && decide (0 < am_pts (P u)))
theorem am_liv_up {sd : Nat → Nat} {P : am_P} {s u : Nat} (h : am_liv sd P s u = true) : ∀ m, am_liv sd P s (u + m) = true
  | 0 => h
  | m + 1 => by
    show (am_liv sd P s (u + m) || _) = true
    rw [am_liv_up h m]
    rfl
theorem k_P_hasLiving (hp : p < 2) (hn : n ≤ 8) (hpl : xc_pl p n P σ) (hok : am_okP n P) {sd : Nat → Nat} {s : Nat} (hs : s < 2) (hsd : ∀ u, u < n → σ.1 (17 + 8 * p + u) 0 = nI (sd u) ∧ sd u < 2) : xk_M (xc G) 1 y_P_hasLiving [.ref (xk_wA (xc G) (10 + 3 * p)), .int (nI s)] σ (xk_pi (fun r τ => r = (if am_liv sd P s n = true then nI 1 else nI 0) ∧ σ = τ)) := by
  refine xk_enter (by decide) (Nat.le_of_ble_eq_true rfl) (fun K hE hc => ?_)
  show xk_X K _ _ 0 [(0, _), (1, _)] []
  refine x_iconst (nI 0) hE d_P_hasLiving_0 (by decide) ?_
  refine x_istore_n [(2, _), (0, _), (1, _)] hE d_P_hasLiving_1 rfl (by decide) rfl ?_
  refine x_lv [1, 2, 0] (lv' := [(0, _), (1, _), (2, _)]) rfl ?_
  have loop : ∀ (m u : Nat), u + m = n → am_liv sd P s u = false → xk_X K (xk_vw (xc G)) σ 2 [(0, .ref (xk_wA (xc G) (10 + 3 * p))), (1, .int (nI s)), (2, .int (nI u))] [] := by
    intro m
    induction m with
    | zero =>
      intro u hu hl
      refine x_iload_n hE d_P_hasLiving_2 2 rfl ?_
      refine x_aload_n hE d_P_hasLiving_3 0 rfl ?_
      refine gf_P_26 hc hp d_P_hasLiving_4 hpl.1 ?_
      first | refine xn_icmp_ge hE d_P_hasLiving_7 (fun h => ?_) (fun h => ?_) | refine x_icmp_ge hE d_P_hasLiving_7 (fun h => ?_) (fun h => ?_)
      · skip
        refine x_iconst (nI 0) hE d_P_hasLiving_43 (by decide) ?_
        have e : u = n := by omega
        subst e
        exact x_zret hc d_P_hasLiving_44 (by first | exact Or.inl rfl | exact Or.inr rfl | assumption | omega) (⟨by rw [hl]; rfl, rfl⟩)
      · exact absurd h (by omega)
    | succ m ih =>
      intro u hu hl
      obtain ⟨g1, g2⟩ := hsd u (by omega)
      have hb := (hok u (by omega)).1
      have next : am_liv sd P s (u + 1) = false → xk_X K (xk_vw (xc G)) σ 37 [(0, .ref (xk_wA (xc G) (10 + 3 * p))), (1, .int (nI s)), (2, .int (nI u))] [] := by
        intro hl2
        refine x_iinc 2 (nI (_ + 1)) [(2, _), (0, _), (1, _)] hE d_P_hasLiving_37 rfl (nI_inc _) (by decide) rfl ?_
        refine x_goto hE d_P_hasLiving_40 ?_
        refine x_lv [1, 2, 0] (lv' := [(0, _), (1, _), (2, _)]) rfl ?_
        exact ih (u + 1) (by omega) hl2
      refine x_iload_n hE d_P_hasLiving_2 2 rfl ?_
      refine x_aload_n hE d_P_hasLiving_3 0 rfl ?_
      refine gf_P_26 hc hp d_P_hasLiving_4 hpl.1 ?_
      first | refine xn_icmp_ge hE d_P_hasLiving_7 (fun h => ?_) (fun h => ?_) | refine x_icmp_ge hE d_P_hasLiving_7 (fun h => ?_) (fun h => ?_)
      · exact absurd h (by omega)
      · skip
        refine x_aload_n hE d_P_hasLiving_10 0 rfl ?_
        refine gf_P_11 hc hp d_P_hasLiving_11 ?_
        refine x_iload_n hE d_P_hasLiving_14 2 rfl ?_
        refine x_aald (b := 17 + 8 * p) hc (xc_shV hp) rfl (by omega) (by decide) d_P_hasLiving_15 ?_
        refine gf_P_37 hc (by omega) d_P_hasLiving_16 g1 ?_
        refine x_iload_n hE d_P_hasLiving_19 1 rfl ?_
        first | refine xn_icmp_ne hE d_P_hasLiving_20 (fun h2 => ?_) (fun h2 => ?_) | refine x_icmp_ne hE d_P_hasLiving_20 (fun h2 => ?_) (fun h2 => ?_)
        · exact next (by simp [am_liv, hl, h2])
        · skip
          refine x_aload_n hE d_P_hasLiving_23 0 rfl ?_
          refine gf_P_11 hc hp d_P_hasLiving_24 ?_
          refine x_iload_n hE d_P_hasLiving_27 2 rfl ?_
          refine x_aald (b := 17 + 8 * p) hc (xc_shV hp) rfl (by omega) (by decide) d_P_hasLiving_28 ?_
          refine ca_P_40 hc (by omega) d_P_hasLiving_29 (k_U_isDead (by omega) (hpl.2 u (by omega)).1 (by omega)) (fun r τ hq => ?_)
          obtain ⟨rfl, rfl⟩ := hq
          by_cases hd : am_pts (P u) = 0
          · rw [if_pos hd]
            first | refine xn_if_ne hE d_P_hasLiving_32 (fun z => ?_) (fun z => ?_) | refine x_if_ne hE d_P_hasLiving_32 (fun z => ?_) (fun z => ?_)
            · exact next (by simp [am_liv, hl, hd])
            · exact absurd z (by decide)
          · rw [if_neg hd]
            first | refine xn_if_ne hE d_P_hasLiving_32 (fun z => ?_) (fun z => ?_) | refine x_if_ne hE d_P_hasLiving_32 (fun z => ?_) (fun z => ?_)
            · exact absurd rfl z
            · skip
              refine x_iconst (nI 1) hE d_P_hasLiving_35 (by decide) ?_
              have h5 : am_liv sd P s (u + 1) = true := by simp [am_liv, h2]; omega
              have h6 := am_liv_up h5 m
              rw [show u + 1 + m = n by omega] at h6
              exact x_zret hc d_P_hasLiving_36 (by first | exact Or.inl rfl | exact Or.inr rfl | assumption | omega) (⟨by rw [h6]; rfl, rfl⟩)
  exact loop n 0 (by omega) rfl
theorem k_P_takenTiles (hp : p < 2) (hn : n ≤ 8) (hpl : xc_pl p n P σ) (hok : am_okP n P) : xk_M (xc G) 1 y_P_takenTiles [.ref (xk_wA (xc G) (10 + 3 * p))] σ (xk_pl (fun r τ => (∀ t, t < 64 → xb_t r t = am_taken P t n) ∧ σ = τ)) := by
  refine xk_enter (by decide) (Nat.le_of_ble_eq_true rfl) (fun K hE hc => ?_)
  show xk_X K _ _ 0 [(0, _)] []
  refine x_lconst 0 hE d_P_takenTiles_0 (by decide) ?_
  refine x_lstore_n [(1, _), (0, _)] hE d_P_takenTiles_1 rfl (by decide) rfl ?_
  refine x_iconst (nI 0) hE d_P_takenTiles_2 (by decide) ?_
  refine x_istore_n [(3, _), (1, _), (0, _)] hE d_P_takenTiles_3 rfl (by decide) rfl ?_
  refine x_lv [2, 1, 0] (lv' := [(0, _), (1, _), (3, _)]) rfl ?_
  have loop : ∀ (m u : Nat) (T : Int64), u + m = n → (∀ t, t < 64 → xb_t T t = am_taken P t u) → xk_X K (xk_vw (xc G)) σ 4 [(0, .ref (xk_wA (xc G) (10 + 3 * p))), (1, .long T), (3, .int (nI u))] [] := by
    intro m
    induction m with
    | zero =>
      intro u T hu hT
      refine x_iload_n hE d_P_takenTiles_4 2 rfl ?_
      refine x_aload_n hE d_P_takenTiles_5 0 rfl ?_
      refine gf_P_26 hc hp d_P_takenTiles_6 hpl.1 ?_
      first | refine xn_icmp_ge hE d_P_takenTiles_9 (fun h => ?_) (fun h => ?_) | refine x_icmp_ge hE d_P_takenTiles_9 (fun h => ?_) (fun h => ?_)
      · skip
        refine x_lload_n hE d_P_takenTiles_45 1 rfl ?_
        have e : u = n := by omega
        subst e
        exact x_lret hc d_P_takenTiles_46 (⟨hT, rfl⟩)
      · exact absurd h (by omega)
    | succ m ih =>
      intro u T hu hT
      have hb := hok u (by omega)
      have hat := hpl.2 u (by omega)
      have next : ∀ T2 : Int64, (∀ t, t < 64 → xb_t T2 t = am_taken P t (u + 1)) → xk_X K (xk_vw (xc G)) σ 39 [(0, .ref (xk_wA (xc G) (10 + 3 * p))), (1, .long T2), (3, .int (nI u))] [] := by
        intro T2 hT2
        refine x_iinc 2 (nI (_ + 1)) [(3, _), (0, _), (1, _)] hE d_P_takenTiles_39 rfl (nI_inc _) (by decide) rfl ?_
        refine x_goto hE d_P_takenTiles_42 ?_
        refine x_lv [1, 2, 0] (lv' := [(0, _), (1, _), (3, _)]) rfl ?_
        exact ih (u + 1) T2 (by omega) hT2
      refine x_iload_n hE d_P_takenTiles_4 2 rfl ?_
      refine x_aload_n hE d_P_takenTiles_5 0 rfl ?_
      refine gf_P_26 hc hp d_P_takenTiles_6 hpl.1 ?_
      first | refine xn_icmp_ge hE d_P_takenTiles_9 (fun h => ?_) (fun h => ?_) | refine x_icmp_ge hE d_P_takenTiles_9 (fun h => ?_) (fun h => ?_)
      · exact absurd h (by omega)
      · skip
        refine x_aload_n hE d_P_takenTiles_12 0 rfl ?_
        refine gf_P_11 hc hp d_P_takenTiles_13 ?_
        refine x_iload_n hE d_P_takenTiles_16 2 rfl ?_
        refine x_aald (b := 17 + 8 * p) hc (xc_shV hp) rfl (by omega) (by decide) d_P_takenTiles_17 ?_
        refine ca_P_40 hc (by omega) d_P_takenTiles_18 (k_U_isDead (by omega) hat.1 (by have := hb.1; omega)) (fun r τ hq => ?_)
        obtain ⟨rfl, rfl⟩ := hq
        by_cases hd : am_pts (P u) = 0
        · rw [if_pos hd]
          first | refine xn_if_ne hE d_P_takenTiles_21 (fun z => ?_) (fun z => ?_) | refine x_if_ne hE d_P_takenTiles_21 (fun z => ?_) (fun z => ?_)
          · refine next T (fun t ht => ?_)
            rw [hT t ht]
            simp [am_taken, hd]
          · exact absurd z (by decide)
        · rw [if_neg hd]
          first | refine xn_if_ne hE d_P_takenTiles_21 (fun z => ?_) (fun z => ?_) | refine x_if_ne hE d_P_takenTiles_21 (fun z => ?_) (fun z => ?_)
          · exact absurd rfl z
          · skip
            refine x_lload_n hE d_P_takenTiles_24 1 rfl ?_
            refine x_aload_n hE d_P_takenTiles_25 0 rfl ?_
            refine gf_P_11 hc hp d_P_takenTiles_26 ?_
            refine x_iload_n hE d_P_takenTiles_29 2 rfl ?_
            refine x_aald (b := 17 + 8 * p) hc (xc_shV hp) rfl (by omega) (by decide) d_P_takenTiles_30 ?_
            refine gf_P_75 hc (by omega) d_P_takenTiles_31 (hat.2.1 (by omega)) ?_
            refine ca_P_48 hc d_P_takenTiles_34 (k_G_bit) (fun r τ hq => ?_)
            obtain ⟨rfl, rfl⟩ := hq
            refine x_lor hE d_P_takenTiles_37 ?_
            refine x_lstore_n [(1, _), (0, _), (3, _)] hE d_P_takenTiles_38 rfl (by decide) rfl ?_
            refine x_lv [1, 0, 2] (lv' := [(0, _), (1, _), (3, _)]) rfl ?_
            refine next _ (fun t ht => ?_)
            rw [xb_or, xb_bit _ hb.2.1 t ht, hT t ht]
            have hd2 : 0 < am_pts (P u) := by omega
            by_cases e : t = am_til (P u)
            · simp [am_taken, hd2, e]
            · simp [am_taken, hd2, e, Ne.symm e]
  exact loop n 0 0 (by omega) (fun t _ => by rw [xb_zero]; rfl)
theorem k_P_isTaken (hp : p < 2) (hn : n ≤ 8) (hpl : xc_pl p n P σ) (hok : am_okP n P) {t : Nat} (ht : t < 64) : xk_M (xc G) 2 y_P_isTaken [.ref (xk_wA (xc G) (10 + 3 * p)), .int (nI t)] σ (xk_pi (fun r τ => r = (if am_taken P t n = true then nI 1 else nI 0) ∧ σ = τ)) := by
  refine xk_enter (by decide) (Nat.le_of_ble_eq_true rfl) (fun K hE hc => ?_)
  show xk_X K _ _ 0 [(0, _), (1, _)] []
  refine x_aload_n hE d_P_isTaken_0 0 rfl ?_
  refine ca_P_44 hc hp d_P_isTaken_1 (k_P_takenTiles hp hn hpl hok) (fun r τ hq => ?_)
  obtain ⟨hT, rfl⟩ := hq
  refine x_iload_n hE d_P_isTaken_4 1 rfl ?_
  refine ca_P_48 hc d_P_isTaken_5 (k_G_bit) (fun r τ hq => ?_)
  obtain ⟨rfl, rfl⟩ := hq
  refine x_land hE d_P_isTaken_8 ?_
  refine x_lconst 0 hE d_P_isTaken_9 (by decide) ?_
  refine x_lcmp hE d_P_isTaken_10 ?_
  refine x_if_eq hE d_P_isTaken_11 (fun h => ?_) (fun h => ?_)
  · skip
    refine x_iconst (nI 0) hE d_P_isTaken_18 (by decide) ?_
    rw [xb_test ht, hT t ht] at h
    exact x_zret hc d_P_isTaken_19 (by first | exact Or.inl rfl | exact Or.inr rfl | assumption | omega) (⟨by rw [h]; rfl, rfl⟩)
  · skip
    refine x_iconst (nI 1) hE d_P_isTaken_14 (by decide) ?_
    refine x_goto hE d_P_isTaken_15 ?_
    rw [xb_test ht, hT t ht] at h
    have h2 : am_taken P t n = true := by simpa using h
    exact x_zret hc d_P_isTaken_19 (by first | exact Or.inl rfl | exact Or.inr rfl | assumption | omega) (⟨by rw [h2]; rfl, rfl⟩)
theorem k_P_place (hp : p < 2) (hn : n < 8) (hc1 : σ.1 (10 + 3 * p) 3 = nI n) {s t : Int32} : xk_M (xc G) 4 y_P_place [.ref (xk_wA (xc G) (10 + 3 * p)), .int s, .int t] σ (xk_pi (fun r τ => r = nI n ∧ τ = xk_up (xu_settle σ (17 + 8 * p + n) s t) (10 + 3 * p) 3 (nI (n + 1)))) := by
  have e1 : (xu_settle σ (17 + 8 * p + n) s t).1 (10 + 3 * p) 3 = nI n := by
    simp only [xu_settle]
    rw [xu_restart_o (by omega), xk_up_o (by omega), xk_up_o (by omega)]
    exact hc1
  refine xk_enter (by decide) (Nat.le_of_ble_eq_true rfl) (fun K hE hc => ?_)
  show xk_X K _ _ 0 [(0, _), (1, _), (2, _)] []
  refine x_aload_n hE d_P_place_0 0 rfl ?_
  refine gf_P_11 hc hp d_P_place_1 ?_
  refine x_aload_n hE d_P_place_4 0 rfl ?_
  refine gf_P_26 hc hp d_P_place_5 hc1 ?_
  refine x_aald (b := 17 + 8 * p) hc (xc_shV hp) rfl (by omega) (by decide) d_P_place_8 ?_
  refine x_iload_n hE d_P_place_9 1 rfl ?_
  refine x_iload_n hE d_P_place_10 2 rfl ?_
  refine ca_P_30 hc (by omega) d_P_place_11 (k_U_settle (by omega)) (fun τ hq => ?_)
  obtain rfl := hq
  refine x_aload_n hE d_P_place_14 0 rfl ?_
  refine x_dup hE d_P_place_15 rfl ?_
  refine gf_P_26 hc hp d_P_place_16 e1 ?_
  refine x_iconst (nI 1) hE d_P_place_19 (by decide) ?_
  first | refine xn_iadd hE d_P_place_20 ?_ | refine x_iadd hE d_P_place_20 ?_
  refine pf_P_26 hc hp d_P_place_21 ?_
  refine x_aload_n hE d_P_place_24 0 rfl ?_
  refine gf_P_26 hc hp d_P_place_25 (by rw [xk_up_s, if_pos rfl]) ?_
  refine x_iconst (nI 1) hE d_P_place_28 (by decide) ?_
  first | refine xn_isub hE d_P_place_29 ?_ | refine x_isub hE d_P_place_29 ?_
  exact x_iret hc d_P_place_30 (⟨rfl, rfl⟩)
theorem k_P_restart (hp : p < 2) (hn : n ≤ 8) (hc1 : σ.1 (10 + 3 * p) 3 = nI n) {stt : Nat → Nat} (hst : ∀ u, u < n → σ.1 (17 + 8 * p + u) 1 = nI (stt u)) : xk_M (xc G) 3 y_P_restart [.ref (xk_wA (xc G) (10 + 3 * p))] σ (xk_pv (fun τ => xc_pl p n (fun u => (20, stt u, 0, 0, 0, [])) τ ∧ xc_fr p σ τ)) := by
  refine xk_enter (by decide) (Nat.le_of_ble_eq_true rfl) (fun K hE hc => ?_)
  show xk_X K _ _ 0 [(0, _)] []
  refine x_iconst (nI 0) hE d_P_restart_0 (by decide) ?_
  refine x_istore_n [(1, _), (0, _)] hE d_P_restart_1 rfl (by decide) rfl ?_
  refine x_lv [1, 0] (lv' := [(0, _), (1, _)]) rfl ?_
  have loop : ∀ (m u : Nat) (τ : xk_St), u + m = n → xc_fr p σ τ → (∀ v, v < u → xc_at τ (17 + 8 * p + v) (20, stt v, 0, 0, 0, [])) → xk_X K (xk_vw (xc G)) τ 2 [(0, .ref (xk_wA (xc G) (10 + 3 * p))), (1, .int (nI u))] [] := by
    intro m
    induction m with
    | zero =>
      intro u τ hu hf hat
      have hc2 : τ.1 (10 + 3 * p) 3 = nI n := by rw [hf.2.1 (10 + 3 * p) (by omega)]; exact hc1
      refine x_iload_n hE d_P_restart_2 1 rfl ?_
      refine x_aload_n hE d_P_restart_3 0 rfl ?_
      refine gf_P_26 hc hp d_P_restart_4 hc2 ?_
      first | refine xn_icmp_ge hE d_P_restart_7 (fun h => ?_) (fun h => ?_) | refine x_icmp_ge hE d_P_restart_7 (fun h => ?_) (fun h => ?_)
      · skip
        exact x_ret hc d_P_restart_25 (⟨⟨hc2, fun v hv => hat v (by omega)⟩, hf⟩)
      · exact absurd h (by omega)
    | succ m ih =>
      intro u τ hu hf hat
      have hc2 : τ.1 (10 + 3 * p) 3 = nI n := by rw [hf.2.1 (10 + 3 * p) (by omega)]; exact hc1
      refine x_iload_n hE d_P_restart_2 1 rfl ?_
      refine x_aload_n hE d_P_restart_3 0 rfl ?_
      refine gf_P_26 hc hp d_P_restart_4 hc2 ?_
      first | refine xn_icmp_ge hE d_P_restart_7 (fun h => ?_) (fun h => ?_) | refine x_icmp_ge hE d_P_restart_7 (fun h => ?_) (fun h => ?_)
      · exact absurd h (by omega)
      · skip
        refine x_aload_n hE d_P_restart_10 0 rfl ?_
        refine gf_P_11 hc hp d_P_restart_11 ?_
        refine x_iload_n hE d_P_restart_14 1 rfl ?_
        refine x_aald (b := 17 + 8 * p) hc (xc_shV hp) rfl (by omega) (by decide) d_P_restart_15 ?_
        refine ca_P_34 hc (by omega) d_P_restart_16 (k_U_restart (by omega)) (fun τ hq => ?_)
        obtain rfl := hq
        refine x_iinc 1 (nI (_ + 1)) [(1, _), (0, _)] hE d_P_restart_19 rfl (nI_inc _) (by decide) rfl ?_
        refine x_goto hE d_P_restart_22 ?_
        refine x_lv [1, 0] (lv' := [(0, _), (1, _)]) rfl ?_
        obtain ⟨e1, e2⟩ := xu_restart_at (σ := τ) (k := 17 + 8 * p + u) (t := stt u) (by rw [(hf.2.2 (17 + 8 * p + u) (by omega) (by omega)).2]; exact hst u (by omega))
        refine ih (u + 1) _ (by omega) (hf.tr (e2.fr (by omega))) (fun v hv => ?_)
        by_cases e : v = u
        · subst e; exact e1
        · have h1 := hat v (by omega)
          unfold xc_at at h1 ⊢
          rw [e2.2.1 _ (by omega), e2.2.1 _ (by omega)]
          exact h1
  exact loop n 0 σ (by omega) xc_fr.rf (fun v hv => absurd hv (Nat.not_lt_zero _))
end XPl
end
section
/-! PLAY: paths, moves, orders -/
section XP2
variable {G : xk_D} {σ : xk_St} {p n u : Nat} {P : am_P} {W : Nat → Bool}
/-- the path that was found, or, where none was, the one that was there -/
def am_take (x : am_U) (l : List Nat) : am_U := match l with
  | [] => x
  | q :: z => (am_pts x, am_til x, am_ord x, am_aim x, am_pat x, q :: z)
theorem am_take_pt (x : am_U) (l : List Nat) : am_pts (am_take x l) = am_pts x ∧ am_til (am_take x l) = am_til x := by
  cases l <;> exact ⟨rfl, rfl⟩
theorem xc_W.mv {σ τ : xk_St} (h : xc_W W σ) (e : τ.2 = σ.2) : xc_W W τ := fun t ht => by rw [e]; exact h t ht
theorem k_P_findPath (hp : p < 2) (hu : u < 8) {x : am_U} (hat : xc_at σ (17 + 8 * p + u) x) (ha : 0 < am_pts x) (ht : am_til x < 64) {g : Nat} (hg : g < 64) (hW : xc_W W σ) {av : Int64} {Av : Nat → Bool} (hA : ∀ t, t < 64 → xb_t av t = Av t) : xk_M (xc G) 2 y_P_findPath [.ref (xk_wA (xc G) (10 + 3 * p)), .ref (xk_wA (xc G) (17 + 8 * p + u)), .int (nI g), .long av] σ (xk_pv (fun τ => xc_at τ (17 + 8 * p + u) (am_take x (am_find (am_free W Av g) (am_til x) g)) ∧ xc_one p u σ τ)) := by
  have hinv := am_inv_end (free := am_free W Av g) (b := g) ht
  have hmet := am_inv_met hinv
  refine xk_enter (by decide) (Nat.le_of_ble_eq_true rfl) (fun K hE hc => ?_)
  show xk_X K _ _ 0 [(0, _), (1, _), (2, _), (3, _)] []
  refine x_aload_n hE d_P_findPath_0 0 rfl ?_
  refine gf_P_21 hc hp d_P_findPath_1 ?_
  refine x_aload_n hE d_P_findPath_4 1 rfl ?_
  refine gf_P_75 hc (by omega) d_P_findPath_5 (hat.2.1 ha) ?_
  refine x_iload_n hE d_P_findPath_8 2 rfl ?_
  refine x_lload_n hE d_P_findPath_9 3 rfl ?_
  refine ca_P_143 hc d_P_findPath_10 (k_G_search hW hA ht hg) (fun r τ hq => ?_)
  obtain ⟨rfl, hR, hF⟩ := hq
  have hat2 : xc_at τ (17 + 8 * p + u) x := by
    unfold xc_at at hat ⊢
    rw [hF.2 _ (by omega) (by omega) (by omega), hF.2 _ (by omega) (by omega) (by omega)]
    exact hat
  have hone : xc_one p u σ τ := ⟨hF.1, fun k hk => hF.2 k (by omega) (by omega) (by omega), by rw [hF.2 _ (by omega) (by omega) (by omega)], by rw [hF.2 _ (by omega) (by omega) (by omega)]⟩
  refine x_istore [(5, _), (0, _), (1, _), (2, _), (3, _)] hE d_P_findPath_13 (by decide) rfl ?_
  refine x_iload hE d_P_findPath_15 0 rfl ?_
  cases hfr : (am_end (am_free W Av g) (am_til x) g).2.2.1 g with
  | none =>
    have e : am_find (am_free W Av g) (am_til x) g = [] := by unfold am_find; rw [if_pos hfr]
    rw [xc_dp_n hfr]
    refine x_if_le hE d_P_findPath_17 (fun z => ?_) (fun z => ?_)
    · skip
      exact x_ret hc d_P_findPath_43 (by rw [e]; exact ⟨hat2, hone⟩)
    · exact absurd (by decide) z
  | some y =>
    have hne : (am_end (am_free W Av g) (am_til x) g).2.2.1 g ≠ none := by rw [hfr]; simp
    have hdp := (hinv.2.2.2 g y hfr).2.2.2.1
    have e : am_find (am_free W Av g) (am_til x) g = am_chain (am_end (am_free W Av g) (am_til x) g).2.2.1 ((am_end (am_free W Av g) (am_til x) g).2.2.2 g) g := by unfold am_find; rw [if_neg hne]
    rw [xc_dp_s hne]
    first | refine xn_if_le hE d_P_findPath_17 (fun z => ?_) (fun z => ?_) | refine x_if_le hE d_P_findPath_17 (fun z => ?_) (fun z => ?_)
    · skip
      exact x_ret hc d_P_findPath_43 (by rw [e, z]; exact ⟨hat2, hone⟩)
    · skip
      refine x_aload_n hE d_P_findPath_20 1 rfl ?_
      refine gf_P_21 hc hp d_P_findPath_21 ?_
      refine x_iload_n hE d_P_findPath_24 3 rfl ?_
      refine x_aload_n hE d_P_findPath_25 2 rfl ?_
      refine gf_P_147 hc (by omega) d_P_findPath_26 ?_
      refine ca_P_150 hc d_P_findPath_29 (k_G_layPath hinv hR hg hne (show 33 ≤ 17 + 8 * p + u + 16 by omega) (xc_shR (by omega))) (fun τ hq => ?_)
      obtain ⟨q1, q2, q3⟩ := hq
      refine x_aload_n hE d_P_findPath_32 2 rfl ?_
      refine x_iconst (nI 0) hE d_P_findPath_33 (by decide) ?_
      refine pf_P_154 hc (by omega) d_P_findPath_34 ?_
      refine x_aload_n hE d_P_findPath_37 2 rfl ?_
      refine x_iload hE d_P_findPath_38 0 rfl ?_
      refine pf_P_157 hc (by omega) d_P_findPath_40 ?_
      have hl : (am_find (am_free W Av g) (am_til x) g).length = (am_end (am_free W Av g) (am_til x) g).2.2.2 g := by rw [e, am_chain_len]
      have htk : am_take x (am_find (am_free W Av g) (am_til x) g) = (am_pts x, am_til x, am_ord x, am_aim x, am_pat x, am_find (am_free W Av g) (am_til x) g) := by
        cases hz : am_find (am_free W Av g) (am_til x) g with
        | nil => rw [hz] at hl; simp at hl; omega
        | cons a b => rfl
      obtain ⟨h1, h2, h3, h4, h5, h6, -⟩ := hat2
      refine x_ret hc d_P_findPath_43 ⟨?_, ?_⟩
      · rw [htk]
        refine ⟨?_, ?_, ?_, ?_, ?_, ?_, 0, ?_, ?_, ?_, fun i hi => ?_⟩
        · simp (disch := omega) only [xk_up_s, xk_up_o]; rw [q2 _ (by omega)]; exact h1
        · simp (disch := omega) only [xk_up_s, xk_up_o]; rw [q2 _ (by omega)]; exact h2
        · simp (disch := omega) only [xk_up_s, xk_up_o]; rw [q2 _ (by omega)]; exact h3
        · simp (disch := omega) only [xk_up_s, xk_up_o]; rw [q2 _ (by omega)]; exact h4
        · simp (disch := omega) only [xk_up_s, xk_up_o]; rw [q2 _ (by omega)]; exact h5
        · simp (disch := omega) only [xk_up_s, xk_up_o]; rw [q2 _ (by omega)]; exact h6
        · simp (disch := omega) only [xk_up_s, xk_up_o]; rfl
        · simp (disch := omega) only [xk_up_s, xk_up_o]
          show nI _ = nI (0 + (am_find (am_free W Av g) (am_til x) g).length)
          rw [hl, Nat.zero_add]
        · show 0 + (am_find (am_free W Av g) (am_til x) g).length ≤ 64
          omega
        · have hi : i < (am_find (am_free W Av g) (am_til x) g).length := hi
          rw [xk_up_o (by omega), xk_up_o (by omega), Nat.zero_add, q3 i (by rw [← e]; exact hi)]
          congr 1
          simp only [e]
      · refine hone.tr ⟨q1, fun k hk => ?_, ?_, ?_⟩
        · rw [xk_up_o (by omega), xk_up_o (by omega)]; exact q2 k (by omega)
        · rw [xk_up_s, xk_up_s, q2 _ (by omega)]; rfl
        · rw [xk_up_s, xk_up_s, q2 _ (by omega)]; rfl
theorem am_take_pth (x : am_U) (l : List Nat) (h : am_pth x = []) : am_take x l = (am_pts x, am_til x, am_ord x, am_aim x, am_pat x, l) := by
  obtain ⟨a, b, c, d, e, f⟩ := x
  have h : f = [] := h
  subst h
  cases l <;> rfl
theorem k_P_walk (hp : p < 2) (hn : n ≤ 8) (hu : u < n) (hpl : xc_pl p n P σ) (hok : am_okP n P) (ha : 0 < am_pts (P u)) {g : Nat} (hg : g < 64) (hgo : am_ord (P u) = 1 → g = am_aim (P u)) (hW : xc_W W σ) : xk_M (xc G) 3 y_P_walk [.ref (xk_wA (xc G) (10 + 3 * p)), .ref (xk_wA (xc G) (17 + 8 * p + u)), .int (nI g)] σ (xk_pv (fun τ => xc_at τ (17 + 8 * p + u) (am_walk W n P (P u) g) ∧ xc_one p u σ τ)) := by
  have hat := hpl.2 u hu
  have hx := hok u hu
  have hk : 17 ≤ 17 + 8 * p + u ∧ 17 + 8 * p + u < 33 := by omega
  have rest : ∀ (K : xk_K) (x : am_U) (τ : xk_St), xk_E K c_P_walk 3 → xk_H K (xc G) c_P_walk 3 RP 3 none (xk_pv (fun τ => xc_at τ (17 + 8 * p + u) (am_walk W n P (P u) g) ∧ xc_one p u σ τ)) → xc_at τ (17 + 8 * p + u) x → xc_one p u σ τ → am_pts x = am_pts (P u) → am_til x = am_til (P u) → am_ord x = am_ord (P u) → am_aim x = am_aim (P u) → am_ok n x → am_walk W n P (P u) g = am_step W n P x g →
      xk_X K (xk_vw (xc G)) τ 19 [(0, .ref (xk_wA (xc G) (10 + 3 * p))), (1, .ref (xk_wA (xc G) (17 + 8 * p + u))), (2, .int (nI g))] [] := by
    intro K x τ hE hc hatx hone e1 e2 e3 e4 hxo hwk
    have hpl2 := hpl.set hp hn (show u < 8 by omega) hatx hone
    have hok2 : am_okP n (am_set P u x) := am_okP_set hok hxo
    have htk : ∀ t, am_taken (am_set P u x) t n = am_taken P t n := fun t => am_taken_set e1 e2
    refine x_aload_n hE d_P_walk_19 1 rfl ?_
    refine ca_P_127 hc (by omega) d_P_walk_20 (k_U_pathLength hk hatx) (fun r τ hq => ?_)
    obtain ⟨rfl, rfl⟩ := hq
    have hlen := hxo.2.2.2.2.2.2.1
    cases hpth : am_pth x with
    | nil =>
      first | refine xn_if_ne hE d_P_walk_23 (fun z => ?_) (fun z => ?_) | refine x_if_ne hE d_P_walk_23 (fun z => ?_) (fun z => ?_)
      · exact absurd rfl z
      · skip
        refine x_aload_n hE d_P_walk_26 1 rfl ?_
        refine ca_P_99 hc (by omega) d_P_walk_27 (k_U_dropOrder hk) (fun τ hq => ?_)
        obtain rfl := hq
        refine x_goto hE d_P_walk_30 ?_
        obtain ⟨f1, f2⟩ := xu_drop_at hatx
        refine x_ret hc d_P_walk_69 ⟨?_, hone.tr f2.one⟩
        rw [hwk]
        unfold am_step
        rw [hpth]
        exact f1
    | cons t tl =>
      have ht : t < 64 := hxo.2.2.2.2.2.2.2.1 t (by rw [hpth]; exact List.mem_cons_self)
      have hl1 : (t :: tl).length ≤ 64 := by rw [← hpth]; exact hlen
      first | refine xn_if_ne hE d_P_walk_23 (fun z => ?_) (fun z => ?_) | refine x_if_ne hE d_P_walk_23 (fun z => ?_) (fun z => ?_)
      · skip
        refine x_aload_n hE d_P_walk_33 0 rfl ?_
        refine x_aload_n hE d_P_walk_34 1 rfl ?_
        refine x_iconst (nI 0) hE d_P_walk_35 (by decide) ?_
        have h0 : 0 < (am_pth x).length := by rw [hpth]; simp
        refine ca_P_130 hc (by omega) d_P_walk_36 (k_U_pathTile hk hatx (i := 0) h0) (fun r τ hq => ?_)
        obtain ⟨hr0, rfl⟩ := hq
        have hr1 : r = nI t := by rw [hr0]; congr 1; simp [hpth]
        subst hr1
        refine ca_P_134 hc hp d_P_walk_39 (k_P_isTaken hp hn hpl2 hok2 ht) (fun r τ hq => ?_)
        obtain ⟨rfl, rfl⟩ := hq
        rw [htk]
        cases htak : am_taken P t n with
        | false =>
          first | refine xn_if_ne hE d_P_walk_42 (fun y => ?_) (fun y => ?_) | refine x_if_ne hE d_P_walk_42 (fun y => ?_) (fun y => ?_)
          · exact absurd rfl y
          · skip
            refine x_aload_n hE d_P_walk_45 1 rfl ?_
            refine ca_P_137 hc (by omega) d_P_walk_46 (k_U_step hk hatx hxo.2.2.1 hxo.2.2.2.1 (by omega) hpth ht) (fun τ hq => ?_)
            obtain ⟨s1, s2⟩ := hq
            refine x_goto hE d_P_walk_49 ?_
            refine x_ret hc d_P_walk_69 ⟨?_, hone.tr s2.one⟩
            rw [hwk]
            unfold am_step
            rw [hpth]
            simp only [htak]
            rw [if_pos trivial]
            have hiff : (am_ord x = 1 ∧ t = g) ↔ (am_ord x = 1 ∧ t = am_aim x) := by
              constructor
              · intro q; exact ⟨q.1, by rw [e4, ← hgo (by rw [← e3]; exact q.1)]; exact q.2⟩
              · intro q; exact ⟨q.1, by rw [hgo (by rw [← e3]; exact q.1), ← e4]; exact q.2⟩
            by_cases hq : am_ord x = 1 ∧ t = am_aim x
            · rw [if_pos hq] at s1
              rw [if_pos (hiff.mpr hq)]
              exact s1
            · rw [if_neg hq] at s1
              rw [if_neg (fun w => hq (hiff.mp w))]
              exact s1
        | true =>
          first | refine xn_if_ne hE d_P_walk_42 (fun y => ?_) (fun y => ?_) | refine x_if_ne hE d_P_walk_42 (fun y => ?_) (fun y => ?_)
          · skip
            refine x_aload_n hE d_P_walk_52 1 rfl ?_
            refine ca_P_140 hc (by omega) d_P_walk_53 (k_U_runsOutOfPatience hk hatx.2.2.2.2.2.1 hxo.2.2.2.2.2.1) (fun r τ hq => ?_)
            obtain ⟨rfl, rfl⟩ := hq
            obtain ⟨h1, h2, h3, h4, h5, h6, f, h7, h8, h9, h10⟩ := hatx
            have hup : ∀ v : Nat, xc_at (xk_up τ (17 + 8 * p + u) 6 (nI v)) (17 + 8 * p + u) (am_pts x, am_til x, am_ord x, am_aim x, v, am_pth x) ∧ xc_own (17 + 8 * p + u) τ (xk_up τ (17 + 8 * p + u) 6 (nI v)) := by
              intro v
              refine ⟨⟨?_, ?_, ?_, ?_, ?_, ?_, f, ?_, ?_, h9, fun i hi => ?_⟩, rfl, fun j hj => xk_up_o hj, by rw [xk_up_s]; rfl, by rw [xk_up_s]; rfl⟩
              all_goals first | (rw [xk_up_o (show 17 + 8 * p + u + 16 ≠ 17 + 8 * p + u by omega)]; exact h10 i hi) | simp only [xk_up_s]
              · exact h1
              · exact h2
              · exact h3
              · exact h4
              · exact h5
              · rfl
              · exact h7
              · exact h8
            by_cases hpat : am_pat x + 1 < 3
            · rw [if_pos hpat, if_pos hpat]
              first | refine xn_if_eq hE d_P_walk_56 (fun w => ?_) (fun w => ?_) | refine x_if_eq hE d_P_walk_56 (fun w => ?_) (fun w => ?_)
              · skip
                refine x_ret hc d_P_walk_69 ⟨?_, hone.tr (hup _).2.one⟩
                rw [hwk]
                unfold am_step
                rw [hpth]
                simp only [htak]
                rw [if_neg (by simp), if_pos hpat, ← hpth]
                exact (hup _).1
              · exact absurd rfl w
            · rw [if_neg hpat, if_neg hpat]
              first | refine xn_if_eq hE d_P_walk_56 (fun w => ?_) (fun w => ?_) | refine x_if_eq hE d_P_walk_56 (fun w => ?_) (fun w => ?_)
              · exact absurd w (by decide)
              · skip
                refine x_aload_n hE d_P_walk_59 0 rfl ?_
                refine x_aload_n hE d_P_walk_60 1 rfl ?_
                refine x_iload_n hE d_P_walk_61 2 rfl ?_
                refine x_aload_n hE d_P_walk_62 0 rfl ?_
                have hat3 := (hup 0).1
                have hone3 : xc_one p u σ (xk_up τ (17 + 8 * p + u) 6 (nI 0)) := hone.tr (hup 0).2.one
                have hx3 : am_ok n (am_pts x, am_til x, am_ord x, am_aim x, 0, am_pth x) := ⟨hxo.1, hxo.2.1, hxo.2.2.1, hxo.2.2.2.1, hxo.2.2.2.2.1, (by decide : 0 < 3), hxo.2.2.2.2.2.2.1, hxo.2.2.2.2.2.2.2.1, fun e => absurd e (show ¬ am_pts x = 0 by omega)⟩
                have hpl3 := hpl.set hp hn (show u < 8 by omega) hat3 hone3
                have hok3 := am_okP_set (u := u) hok hx3
                refine ca_P_44 hc hp d_P_walk_63 (k_P_takenTiles hp hn hpl3 hok3) (fun r τ hq => ?_)
                obtain ⟨hT, rfl⟩ := hq
                have hT2 : ∀ t, t < 64 → xb_t r t = am_taken P t n := fun t ht => by rw [hT t ht]; exact am_taken_set e1 e2
                refine ca_P_123 hc hp d_P_walk_66 (k_P_findPath hp (show u < 8 by omega) hat3 (show 0 < am_pts x by omega) hxo.2.1 hg (hW.mv hone3.1) hT2) (fun τ hq => ?_)
                obtain ⟨v1, v2⟩ := hq
                refine x_ret hc d_P_walk_69 ⟨?_, hone3.tr v2⟩
                rw [hwk]
                unfold am_step
                rw [hpth]
                simp only [htak]
                rw [if_neg (by simp), if_neg hpat]
                revert v1
                show xc_at _ _ (am_take _ (am_find (am_free W (fun t => am_taken P t n) g) (am_til x) g)) → _
                cases am_find (am_free W (fun t => am_taken P t n) g) (am_til x) g with
                | nil => intro v1; rw [← hpth]; exact v1
                | cons q z => intro v1; exact v1
          · exact absurd y (by decide)
      · exact absurd z (by simp)
  refine xk_enter (by decide) (Nat.le_of_ble_eq_true rfl) (fun K hE hc => ?_)
  show xk_X K _ _ 0 [(0, _), (1, _), (2, _)] []
  refine x_aload_n hE d_P_walk_0 1 rfl ?_
  refine x_iload_n hE d_P_walk_1 2 rfl ?_
  refine ca_P_120 hc (by omega) d_P_walk_2 (k_U_isPathTo hk hat hx.2.2.2.2.2.2.2.1 hg) (fun r τ hq => ?_)
  obtain ⟨rfl, rfl⟩ := hq
  by_cases hl : (am_pth (P u)).getLast? = some g
  · rw [if_pos hl]
    first | refine xn_if_ne hE d_P_walk_5 (fun z => ?_) (fun z => ?_) | refine x_if_ne hE d_P_walk_5 (fun z => ?_) (fun z => ?_)
    · exact rest K (P u) σ hE hc hat xc_one.rf rfl rfl rfl rfl hx (by unfold am_walk; rw [if_pos hl])
    · exact absurd z (by decide)
  · rw [if_neg hl]
    first | refine xn_if_ne hE d_P_walk_5 (fun z => ?_) (fun z => ?_) | refine x_if_ne hE d_P_walk_5 (fun z => ?_) (fun z => ?_)
    · exact absurd rfl z
    · skip
      refine x_aload_n hE d_P_walk_8 1 rfl ?_
      refine ca_P_106 hc (by omega) d_P_walk_9 (k_U_clearPath hk) (fun τ hq => ?_)
      obtain rfl := hq
      obtain ⟨f1, f2⟩ := xu_clear_at hat
      refine x_aload_n hE d_P_walk_12 0 rfl ?_
      refine x_aload_n hE d_P_walk_13 1 rfl ?_
      refine x_iload_n hE d_P_walk_14 2 rfl ?_
      refine x_lconst 0 hE d_P_walk_15 (by decide) ?_
      have h00 : ∀ t, t < 64 → xb_t 0 t = (fun _ => false : Nat → Bool) t := fun t _ => xb_zero t
      refine ca_P_123 hc hp d_P_walk_16 (k_P_findPath hp (show u < 8 by omega) f1 ha hx.2.1 hg (hW.mv f2.1) h00) (fun τ hq => ?_)
      obtain ⟨v1, v2⟩ := hq
      have hf := am_find_ok (free := am_free W (fun _ => false) g) (b := g) hx.2.1
      rw [am_take_pth _ _ rfl] at v1
      exact rest K _ _ hE hc v1 (f2.one.tr v2) rfl rfl rfl rfl ⟨hx.1, hx.2.1, hx.2.2.1, hx.2.2.2.1, hx.2.2.2.2.1, hx.2.2.2.2.2.1, Nat.le_of_lt hf.1, hf.2, fun e => absurd e (show ¬ am_pts (P u) = 0 by omega)⟩ (by unfold am_walk; rw [if_neg hl])
end XP2
end
section
/-! PLAY: goals, orders, blows, rest, the number, a tick -/
section XP3
variable {G : xk_D} {σ : xk_St} {p n u : Nat} {P : am_P} {W : Nat → Bool}
def am_goal (W : Nat → Bool) (P : am_P) (x : am_U) : Option Nat :=
  if am_ord x = 2 then (if am_pts (P (am_aim x)) = 0 then none else some (am_til (P (am_aim x)))) else (if am_aim x = am_til x ∨ W (am_aim x) = true then none else some (am_aim x))
theorem k_P_goalOf (hp : p < 2) (hn : n ≤ 8) (hu : u < n) (hpl : xc_pl p n P σ) (hok : am_okP n P) (ha : 0 < am_pts (P u)) (hW : xc_W W σ) : xk_M (xc G) 2 y_P_goalOf [.ref (xk_wA (xc G) (10 + 3 * p)), .ref (xk_wA (xc G) (17 + 8 * p + u))] σ (xk_pi (fun r τ => r = xc_o (am_goal W P (P u)) ∧ σ = τ)) := by
  have hat := hpl.2 u hu
  have hx := hok u hu
  have ho := hx.2.2.1
  have haim := hx.2.2.2.1
  refine xk_enter (by decide) (Nat.le_of_ble_eq_true rfl) (fun K hE hc => ?_)
  show xk_X K _ _ 0 [(0, _), (1, _)] []
  refine x_aload_n hE d_P_goalOf_0 1 rfl ?_
  refine gf_P_58 hc (by omega) d_P_goalOf_1 hat.2.2.2.1 ?_
  refine x_iconst (nI 2) hE d_P_goalOf_4 (by decide) ?_
  first | refine xn_icmp_ne hE d_P_goalOf_5 (fun h => ?_) (fun h => ?_) | refine x_icmp_ne hE d_P_goalOf_5 (fun h => ?_) (fun h => ?_)
  · skip
    have htil := hx.2.1
    refine x_aload_n hE d_P_goalOf_21 1 rfl ?_
    refine gf_P_113 hc (by omega) d_P_goalOf_22 hat.2.2.2.2.1 ?_
    refine x_aload_n hE d_P_goalOf_25 1 rfl ?_
    refine gf_P_75 hc (by omega) d_P_goalOf_26 (hat.2.1 ha) ?_
    first | refine xn_icmp_eq hE d_P_goalOf_29 (fun h1 => ?_) (fun h1 => ?_) | refine x_icmp_eq hE d_P_goalOf_29 (fun h1 => ?_) (fun h1 => ?_)
    · skip
      refine x_iconst (-1) hE d_P_goalOf_46 (by decide) ?_
      refine x_goto hE d_P_goalOf_47 ?_
      exact x_iret hc d_P_goalOf_54 (⟨by unfold am_goal; rw [if_neg h, if_pos (Or.inl h1)]; rfl, rfl⟩)
    · skip
      refine x_aload_n hE d_P_goalOf_32 0 rfl ?_
      refine gf_P_21 hc hp d_P_goalOf_33 ?_
      refine x_aload_n hE d_P_goalOf_36 1 rfl ?_
      refine gf_P_113 hc (by omega) d_P_goalOf_37 hat.2.2.2.2.1 ?_
      refine ca_P_116 hc d_P_goalOf_40 (k_G_isWall hW haim) (fun r τ hq => ?_)
      obtain ⟨rfl, rfl⟩ := hq
      cases hw : W (am_aim (P u)) with
      | true =>
        first | refine xn_if_eq hE d_P_goalOf_43 (fun z => ?_) (fun z => ?_) | refine x_if_eq hE d_P_goalOf_43 (fun z => ?_) (fun z => ?_)
        · exact absurd z (by decide)
        · skip
          refine x_iconst (-1) hE d_P_goalOf_46 (by decide) ?_
          refine x_goto hE d_P_goalOf_47 ?_
          exact x_iret hc d_P_goalOf_54 (⟨by unfold am_goal; rw [if_neg h, if_pos (Or.inr hw)]; rfl, rfl⟩)
      | false =>
        first | refine xn_if_eq hE d_P_goalOf_43 (fun z => ?_) (fun z => ?_) | refine x_if_eq hE d_P_goalOf_43 (fun z => ?_) (fun z => ?_)
        · skip
          refine x_aload_n hE d_P_goalOf_50 1 rfl ?_
          refine gf_P_113 hc (by omega) d_P_goalOf_51 hat.2.2.2.2.1 ?_
          exact x_iret hc d_P_goalOf_54 (⟨by unfold am_goal; rw [if_neg h, if_neg (by rw [hw]; simp [h1])]; rfl, rfl⟩)
        · exact absurd rfl z
  · skip
    have haim2 := hx.2.2.2.2.1 h
    have hat2 := hpl.2 _ haim2
    refine x_aload_n hE d_P_goalOf_8 0 rfl ?_
    refine gf_P_11 hc hp d_P_goalOf_9 ?_
    refine x_aload_n hE d_P_goalOf_12 1 rfl ?_
    refine gf_P_113 hc (by omega) d_P_goalOf_13 hat.2.2.2.2.1 ?_
    refine x_aald (b := 17 + 8 * p) hc (xc_shV hp) rfl (by omega) (by decide) d_P_goalOf_16 ?_
    by_cases hd : am_pts (P (am_aim (P u))) = 0
    · skip
      refine gf_P_75 hc (by omega) d_P_goalOf_17 (hat2.2.2.1 hd) ?_
      exact x_iret hc d_P_goalOf_20 (⟨by unfold am_goal; rw [if_pos h, if_pos hd]; rfl, rfl⟩)
    · skip
      refine gf_P_75 hc (by omega) d_P_goalOf_17 (hat2.2.1 (by omega)) ?_
      exact x_iret hc d_P_goalOf_20 (⟨by unfold am_goal; rw [if_pos h, if_neg hd]; rfl, rfl⟩)
theorem k_P_follow (hp : p < 2) (hn : n ≤ 8) (hu : u < n) (hpl : xc_pl p n P σ) (hok : am_okP n P) (ho0 : am_ord (P u) ≠ 0) (hW : xc_W W σ) : xk_M (xc G) 4 y_P_follow [.ref (xk_wA (xc G) (10 + 3 * p)), .ref (xk_wA (xc G) (17 + 8 * p + u))] σ (xk_pv (fun τ => xc_at τ (17 + 8 * p + u) (am_go W n P (P u)) ∧ xc_one p u σ τ)) := by
  have hat := hpl.2 u hu
  have hx := hok u hu
  have ha := am_ok_alive hx ho0
  have ho := hx.2.2.1
  have hk : 17 ≤ 17 + 8 * p + u ∧ 17 + 8 * p + u < 33 := by omega
  refine xk_enter (by decide) (Nat.le_of_ble_eq_true rfl) (fun K hE hc => ?_)
  show xk_X K _ _ 0 [(0, _), (1, _)] []
  refine x_aload_n hE d_P_follow_0 0 rfl ?_
  refine x_aload_n hE d_P_follow_1 1 rfl ?_
  refine ca_P_95 hc hp d_P_follow_2 (k_P_goalOf hp hn hu hpl hok ha hW) (fun r τ hq => ?_)
  obtain ⟨rfl, rfl⟩ := hq
  refine x_istore_n [(2, _), (0, _), (1, _)] hE d_P_follow_5 rfl (by decide) rfl ?_
  refine x_iload_n hE d_P_follow_6 0 rfl ?_
  refine x_iconst (-1) hE d_P_follow_7 (by decide) ?_
  cases hgl : am_goal W P (P u) with
  | none =>
    have hgo : am_go W n P (P u) = am_drop (P u) := by
      unfold am_goal at hgl
      unfold am_go
      split
      · rename_i h
        rw [if_pos h] at hgl
        split at hgl
        · rename_i h2; rw [if_pos h2]
        · cases hgl
      · rename_i h
        rw [if_neg h] at hgl
        split at hgl
        · rename_i h2; rw [if_pos h2]
        · cases hgl
    refine x_icmp_ne hE d_P_follow_8 (fun z => ?_) (fun z => ?_)
    · exact absurd rfl z
    · skip
      refine x_aload_n hE d_P_follow_11 2 rfl ?_
      refine ca_P_99 hc (by omega) d_P_follow_12 (k_U_dropOrder hk) (fun τ hq => ?_)
      obtain rfl := hq
      refine x_goto hE d_P_follow_15 ?_
      obtain ⟨f1, f2⟩ := xu_drop_at hat
      exact x_ret hc d_P_follow_51 (⟨by rw [hgo]; exact f1, f2.one⟩)
  | some g =>
    have hg : g < 64 ∧ (am_ord (P u) = 1 → g = am_aim (P u)) ∧ am_go W n P (P u) = (if am_ord (P u) = 2 ∧ am_dist (am_til (P u)) g = 1 then (am_pts (P u), am_til (P u), am_ord (P u), am_aim (P u), am_pat (P u), []) else am_walk W n P (P u) g) := by
      unfold am_goal at hgl
      unfold am_go
      by_cases h : am_ord (P u) = 2
      · rw [if_pos h] at hgl
        rw [if_pos h]
        by_cases h2 : am_pts (P (am_aim (P u))) = 0
        · rw [if_pos h2] at hgl; cases hgl
        · rw [if_neg h2] at hgl
          cases hgl
          rw [if_neg h2]
          refine ⟨(hok _ (hx.2.2.2.2.1 h)).2.1, fun e => absurd e (by omega), ?_⟩
          by_cases h3 : am_dist (am_til (P u)) (am_til (P (am_aim (P u)))) = 1
          · rw [if_pos h3, if_pos ⟨h, h3⟩]
          · rw [if_neg h3, if_neg (fun q => h3 q.2)]
      · rw [if_neg h] at hgl
        rw [if_neg h]
        by_cases h2 : am_aim (P u) = am_til (P u) ∨ W (am_aim (P u)) = true
        · rw [if_pos h2] at hgl; cases hgl
        · rw [if_neg h2] at hgl
          cases hgl
          rw [if_neg h2, if_neg (fun q => h q.1)]
          exact ⟨hx.2.2.2.1, fun _ => rfl, rfl⟩
    obtain ⟨hg1, hg2, hg3⟩ := hg
    have htil := hx.2.1
    have wk : xk_X K (xk_vw (xc G)) σ 45 [(2, .int (nI g)), (0, .ref (xk_wA (xc G) (10 + 3 * p))), (1, .ref (xk_wA (xc G) (17 + 8 * p + u)))] [] ∨ True := Or.inr trivial
    have walk : ¬ (am_ord (P u) = 2 ∧ am_dist (am_til (P u)) g = 1) → xk_X K (xk_vw (xc G)) σ 45 [(2, .int (nI g)), (0, .ref (xk_wA (xc G) (10 + 3 * p))), (1, .ref (xk_wA (xc G) (17 + 8 * p + u)))] [] := by
      intro hno
      refine x_aload_n hE d_P_follow_45 1 rfl ?_
      refine x_aload_n hE d_P_follow_46 2 rfl ?_
      refine x_iload_n hE d_P_follow_47 0 rfl ?_
      refine ca_P_109 hc hp d_P_follow_48 (k_P_walk hp hn hu hpl hok ha hg1 hg2 hW) (fun τ hq => ?_)
      obtain ⟨v1, v2⟩ := hq
      exact x_ret hc d_P_follow_51 (⟨by rw [hg3, if_neg hno]; exact v1, v2⟩)
    show xk_X K _ _ 8 [(2, .int (nI g)), (0, _), (1, _)] [.int (-1), .int (nI g)]
    refine x_icmp_ne hE d_P_follow_8 (fun z => ?_) (fun z => ?_)
    · skip
      refine x_aload_n hE d_P_follow_18 2 rfl ?_
      refine gf_P_58 hc (by omega) d_P_follow_19 hat.2.2.2.1 ?_
      refine x_iconst (nI 2) hE d_P_follow_22 (by decide) ?_
      first | refine xn_icmp_ne hE d_P_follow_23 (fun h => ?_) (fun h => ?_) | refine x_icmp_ne hE d_P_follow_23 (fun h => ?_) (fun h => ?_)
      · exact walk (fun q => h q.1)
      · skip
        refine x_aload_n hE d_P_follow_26 2 rfl ?_
        refine gf_P_75 hc (by omega) d_P_follow_27 (hat.2.1 ha) ?_
        refine x_iload_n hE d_P_follow_30 0 rfl ?_
        refine ca_P_102 hc d_P_follow_31 (k_G_distance hx.2.1 hg1) (fun r τ hq => ?_)
        obtain ⟨rfl, rfl⟩ := hq
        have hdl : am_dist (am_til (P u)) g < 2 ^ 31 := by unfold am_dist am_dif; omega
        refine x_iconst (nI 1) hE d_P_follow_34 (by decide) ?_
        first | refine xn_icmp_ne hE d_P_follow_35 (fun h2 => ?_) (fun h2 => ?_) | refine x_icmp_ne hE d_P_follow_35 (fun h2 => ?_) (fun h2 => ?_)
        · exact walk (fun q => h2 q.2)
        · skip
          refine x_aload_n hE d_P_follow_38 2 rfl ?_
          refine ca_P_106 hc (by omega) d_P_follow_39 (k_U_clearPath hk) (fun τ hq => ?_)
          obtain rfl := hq
          refine x_goto hE d_P_follow_42 ?_
          obtain ⟨f1, f2⟩ := xu_clear_at hat
          exact x_ret hc d_P_follow_51 (⟨by rw [hg3, if_pos ⟨h, h2⟩]; exact f1, f2.one⟩)
    · exact absurd z (nI_m1 (by omega))
theorem xc_L.mv {cnt : Nat} {L : am_L} {σ τ : xk_St} (h : xc_L cnt L σ) (e : ∀ k, 5 ≤ k → k ≤ 9 → τ.1 k = σ.1 k) : xc_L cnt L τ := by
  unfold xc_L
  rw [e 5 (by omega) (by omega), e 6 (by omega) (by omega), e 7 (by omega) (by omega), e 8 (by omega) (by omega), e 9 (by omega) (by omega)]
  exact h
theorem k_P_giveOrders (hp : p < 2) (hn : n ≤ 8) (hpl : xc_pl p n P σ) (hok : am_okP n P) {cnt : Nat} {L : am_L} {t : Int32} (hL : xc_L cnt L σ) (hLo : am_okL n cnt L) : xk_M (xc G) 2 y_P_giveOrders [.ref (xk_wA (xc G) (10 + 3 * p)), .int t, .ref (xk_wA (xc G) 5)] σ (xk_pv (fun τ => xc_pl p n (am_obey L t P cnt) τ ∧ xc_fr p σ τ)) := by
  have hc24 := hLo.1
  refine xk_enter (by decide) (Nat.le_of_ble_eq_true rfl) (fun K hE hc => ?_)
  show xk_X K _ _ 0 [(0, _), (1, _), (2, _)] []
  refine x_iconst (nI 0) hE d_P_giveOrders_0 (by decide) ?_
  refine x_istore_n [(3, _), (0, _), (1, _), (2, _)] hE d_P_giveOrders_1 rfl (by decide) rfl ?_
  refine x_lv [1, 2, 3, 0] (lv' := [(0, _), (1, _), (2, _), (3, _)]) rfl ?_
  have loop : ∀ (m e : Nat) (τ : xk_St), e + m = cnt → xc_pl p n (am_obey L t P e) τ → xc_fr p σ τ → xk_X K (xk_vw (xc G)) τ 2 [(0, .ref (xk_wA (xc G) (10 + 3 * p))), (1, .int t), (2, .ref (xk_wA (xc G) 5)), (3, .int (nI e))] [] := by
    intro m
    induction m with
    | zero =>
      intro e τ he hpl2 hf
      have hL2 : xc_L cnt L τ := hL.mv (fun k h1 h2 => hf.2.1 k (by omega))
      refine x_iload_n hE d_P_giveOrders_2 3 rfl ?_
      refine x_aload_n hE d_P_giveOrders_3 2 rfl ?_
      refine gf_P_78 hc d_P_giveOrders_4 hL2.1 ?_
      first | refine xn_icmp_ge hE d_P_giveOrders_7 (fun h => ?_) (fun h => ?_) | refine x_icmp_ge hE d_P_giveOrders_7 (fun h => ?_) (fun h => ?_)
      · skip
        have e0 : e = cnt := by omega
        subst e0
        exact x_ret hc d_P_giveOrders_64 (⟨hpl2, hf⟩)
      · exact absurd h (by omega)
    | succ m ih =>
      intro e τ he hpl2 hf
      have hL2 : xc_L cnt L τ := hL.mv (fun k h1 h2 => hf.2.1 k (by omega))
      have hLe := hL2.2 e (by omega)
      obtain ⟨o1, o2, o3, o4⟩ := hLo.2 e (by omega)
      have hok2 := am_okP_obey (t := t) hok hLo e (by omega)
      have hat := hpl2.2 _ o1
      have hb := (hok2 _ o1).1
      have next : ∀ (τ2 : xk_St), xc_pl p n (am_obey L t P (e + 1)) τ2 → xc_fr p σ τ2 → xk_X K (xk_vw (xc G)) τ2 58 [(4, .ref (xk_wA (xc G) (17 + 8 * p + (L e).2.1))), (0, .ref (xk_wA (xc G) (10 + 3 * p))), (1, .int t), (2, .ref (xk_wA (xc G) 5)), (3, .int (nI e))] [] := by
        intro τ2 g1 g2
        refine x_iinc 4 (nI (_ + 1)) [(3, _), (4, _), (0, _), (1, _), (2, _)] hE d_P_giveOrders_58 rfl (nI_inc _) (by decide) rfl ?_
        refine x_goto hE d_P_giveOrders_61 ?_
        refine x_lv [2, 3, 4, 0] (lv' := [(0, _), (1, _), (2, _), (3, _)]) rfl ?_
        exact ih (e + 1) τ2 (by omega) g1 g2
      refine x_iload_n hE d_P_giveOrders_2 3 rfl ?_
      refine x_aload_n hE d_P_giveOrders_3 2 rfl ?_
      refine gf_P_78 hc d_P_giveOrders_4 hL2.1 ?_
      first | refine xn_icmp_ge hE d_P_giveOrders_7 (fun h => ?_) (fun h => ?_) | refine x_icmp_ge hE d_P_giveOrders_7 (fun h => ?_) (fun h => ?_)
      · exact absurd h (by omega)
      · skip
        refine x_aload_n hE d_P_giveOrders_10 0 rfl ?_
        refine gf_P_11 hc hp d_P_giveOrders_11 ?_
        refine x_aload_n hE d_P_giveOrders_14 2 rfl ?_
        refine gf_P_81 hc d_P_giveOrders_15 ?_
        refine x_iload_n hE d_P_giveOrders_18 3 rfl ?_
        refine x_iald hc rfl rfl (by omega) (by decide) d_P_giveOrders_19 hLe.2.1 ?_
        refine x_aald (b := 17 + 8 * p) hc (xc_shV hp) rfl (by omega) (by decide) d_P_giveOrders_20 ?_
        refine x_astore [(4, _), (0, _), (1, _), (2, _), (3, _)] hE d_P_giveOrders_21 (by decide) rfl ?_
        refine x_aload_n hE d_P_giveOrders_23 3 rfl ?_
        refine gf_P_83 hc d_P_giveOrders_24 ?_
        refine x_iload_n hE d_P_giveOrders_27 4 rfl ?_
        refine x_iald hc rfl rfl (by omega) (by decide) d_P_giveOrders_28 hLe.1 ?_
        refine x_iload_n hE d_P_giveOrders_29 2 rfl ?_
        refine x_icmp_ne hE d_P_giveOrders_30 (fun h2 => ?_) (fun h2 => ?_)
        · refine next τ ?_ hf
          simp only [am_obey]
          rw [if_neg (fun q => h2 q.1)]
          exact hpl2
        · skip
          refine x_aload hE d_P_giveOrders_33 0 rfl ?_
          refine ca_P_40 hc (by omega) d_P_giveOrders_35 (k_U_isDead (by omega) hat.1 (by omega)) (fun r τ hq => ?_)
          obtain ⟨rfl, rfl⟩ := hq
          by_cases hd : am_pts (am_obey L t P e (L e).2.1) = 0
          · rw [if_pos hd]
            first | refine xn_if_ne hE d_P_giveOrders_38 (fun z => ?_) (fun z => ?_) | refine x_if_ne hE d_P_giveOrders_38 (fun z => ?_) (fun z => ?_)
            · refine next τ ?_ hf
              simp only [am_obey]
              rw [if_neg (fun q => by omega)]
              exact hpl2
            · exact absurd z (by decide)
          · rw [if_neg hd]
            first | refine xn_if_ne hE d_P_giveOrders_38 (fun z => ?_) (fun z => ?_) | refine x_if_ne hE d_P_giveOrders_38 (fun z => ?_) (fun z => ?_)
            · exact absurd rfl z
            · skip
              refine x_aload hE d_P_giveOrders_41 0 rfl ?_
              refine x_aload_n hE d_P_giveOrders_43 3 rfl ?_
              refine gf_P_86 hc d_P_giveOrders_44 ?_
              refine x_iload_n hE d_P_giveOrders_47 4 rfl ?_
              refine x_iald hc rfl rfl (by omega) (by decide) d_P_giveOrders_48 hLe.2.2.1 ?_
              refine x_aload_n hE d_P_giveOrders_49 3 rfl ?_
              refine gf_P_89 hc d_P_giveOrders_50 ?_
              refine x_iload_n hE d_P_giveOrders_53 4 rfl ?_
              refine x_iald hc rfl rfl (by omega) (by decide) d_P_giveOrders_54 hLe.2.2.2 ?_
              refine ca_P_92 hc (by omega) d_P_giveOrders_55 (k_U_obey (by omega)) (fun τ hq => ?_)
              obtain rfl := hq
              obtain ⟨f1, f2⟩ := xu_obey_at (o := (L e).2.2.1) (a := (L e).2.2.2) hat
              refine next _ ?_ (hf.tr (f2.fr (by omega)))
              simp only [am_obey]
              rw [if_pos ⟨h2, by omega⟩]
              exact hpl2.set hp hn (by omega) f1 f2.one
  exact loop cnt 0 σ (by omega) hpl xc_fr.rf
theorem k_P_reaches (hp : p < 2) (hn : n ≤ 8) {v : Nat} (hu : u < n) (hv : v < n) (hpl : xc_pl p n P σ) (hok : am_okP n P) (ha : 0 < am_pts (P u)) : xk_M (xc G) 2 y_P_reaches [.ref (xk_wA (xc G) (17 + 8 * p + u)), .ref (xk_wA (xc G) (17 + 8 * p + v))] σ (xk_pi (fun r τ => r = (if 0 < am_pts (P v) ∧ am_dist (am_til (P u)) (am_til (P v)) = 1 then nI 1 else nI 0) ∧ σ = τ)) := by
  have hat := hpl.2 u hu
  have hatv := hpl.2 v hv
  have hx := hok u hu
  have hy := hok v hv
  have hb := hy.1
  refine xk_enter (by decide) (Nat.le_of_ble_eq_true rfl) (fun K hE hc => ?_)
  show xk_X K _ _ 0 [(0, _), (1, _)] []
  refine x_aload_n hE d_P_reaches_0 1 rfl ?_
  refine ca_P_40 hc (by omega) d_P_reaches_1 (k_U_isDead (by omega) hatv.1 (by omega)) (fun r τ hq => ?_)
  obtain ⟨rfl, rfl⟩ := hq
  by_cases hd : am_pts (P v) = 0
  · rw [if_pos hd]
    first | refine xn_if_ne hE d_P_reaches_4 (fun z => ?_) (fun z => ?_) | refine x_if_ne hE d_P_reaches_4 (fun z => ?_) (fun z => ?_)
    · skip
      refine x_iconst (nI 0) hE d_P_reaches_26 (by decide) ?_
      exact x_zret hc d_P_reaches_27 (by first | exact Or.inl rfl | exact Or.inr rfl | assumption | omega) (⟨by rw [if_neg (by omega)], rfl⟩)
    · exact absurd z (by decide)
  · rw [if_neg hd]
    first | refine xn_if_ne hE d_P_reaches_4 (fun z => ?_) (fun z => ?_) | refine x_if_ne hE d_P_reaches_4 (fun z => ?_) (fun z => ?_)
    · exact absurd rfl z
    · skip
      refine x_aload_n hE d_P_reaches_7 0 rfl ?_
      refine gf_P_75 hc (by omega) d_P_reaches_8 (hat.2.1 ha) ?_
      refine x_aload_n hE d_P_reaches_11 1 rfl ?_
      refine gf_P_75 hc (by omega) d_P_reaches_12 (hatv.2.1 (by omega)) ?_
      refine ca_P_102 hc d_P_reaches_15 (k_G_distance hx.2.1 hy.2.1) (fun r τ hq => ?_)
      obtain ⟨rfl, rfl⟩ := hq
      have hdl : am_dist (am_til (P u)) (am_til (P v)) < 2 ^ 31 := by
        have h1 := hx.2.1
        have h2 := hy.2.1
        unfold am_dist am_dif
        omega
      refine x_iconst (nI 1) hE d_P_reaches_18 (by decide) ?_
      first | refine xn_icmp_ne hE d_P_reaches_19 (fun h2 => ?_) (fun h2 => ?_) | refine x_icmp_ne hE d_P_reaches_19 (fun h2 => ?_) (fun h2 => ?_)
      · skip
        refine x_iconst (nI 0) hE d_P_reaches_26 (by decide) ?_
        exact x_zret hc d_P_reaches_27 (by first | exact Or.inl rfl | exact Or.inr rfl | assumption | omega) (⟨by rw [if_neg (fun q => h2 q.2)], rfl⟩)
      · skip
        refine x_iconst (nI 1) hE d_P_reaches_22 (by decide) ?_
        refine x_goto hE d_P_reaches_23 ?_
        exact x_zret hc d_P_reaches_27 (by first | exact Or.inl rfl | exact Or.inr rfl | assumption | omega) (⟨by rw [if_pos ⟨by omega, h2⟩], rfl⟩)
theorem am_lost_le (P : am_P) : ∀ u v, am_lost P u v ≤ 3 * u
  | 0, v => Nat.le_refl _
  | u + 1, v => by
    simp only [am_lost]
    split
    · by_cases e : v = am_aim (P u)
      · subst e
        rw [am_set_s]
        have := am_lost_le P u (am_aim (P u))
        omega
      · rw [am_set_n e]
        have := am_lost_le P u v
        omega
    · have := am_lost_le P u v
      omega
theorem xc_pl.mv {σ τ : xk_St} (h : xc_pl p n P σ) (hn : n ≤ 8) (e : ∀ k, k = 10 + 3 * p ∨ (17 + 8 * p ≤ k ∧ k < 25 + 8 * p) ∨ (33 + 8 * p ≤ k ∧ k < 41 + 8 * p) → τ.1 k = σ.1 k) : xc_pl p n P τ := by
  refine ⟨by rw [e _ (by omega)]; exact h.1, fun v hv => ?_⟩
  have h1 := h.2 v hv
  unfold xc_at at h1 ⊢
  rw [e (17 + 8 * p + v) (by omega), e (17 + 8 * p + v + 16) (by omega)]
  exact h1
theorem k_P_exchangeBlows (hp : p < 2) (hn : n ≤ 8) (hpl : xc_pl p n P σ) (hok : am_okP n P) : xk_M (xc G) 3 y_P_exchangeBlows [.ref (xk_wA (xc G) (10 + 3 * p))] σ (xk_pv (fun τ => xc_pl p n (am_blow n P) τ ∧ (∀ u, u < n → τ.1 (17 + 8 * p + u) 7 = nI (if 0 < am_lost P n u then 1 else 0)) ∧ xc_fr p σ τ)) := by
  refine xk_enter (by decide) (Nat.le_of_ble_eq_true rfl) (fun K hE hc => ?_)
  show xk_X K _ _ 0 [(0, _)] []
  refine x_aload_n hE d_P_exchangeBlows_0 0 rfl ?_
  refine gf_P_17 hc hp d_P_exchangeBlows_1 ?_
  refine x_iconst (nI 0) hE d_P_exchangeBlows_4 (by decide) ?_
  refine ca_P_160 hc d_P_exchangeBlows_5 (k_A_fill (xc_shO hp) (by decide)) (fun τ hq => ?_)
  obtain rfl := hq
  refine x_iconst (nI 0) hE d_P_exchangeBlows_8 (by decide) ?_
  refine x_istore_n [(1, _), (0, _)] hE d_P_exchangeBlows_9 rfl (by decide) rfl ?_
  refine x_lv [1, 0] (lv' := [(0, _), (1, _)]) rfl ?_
  have second : ∀ (m u : Nat) (τ : xk_St), u + m = n → xc_pl p n (fun v => if v < u then am_hurt (P v) (am_lost P n v) else P v) τ → (∀ v, v < u → τ.1 (17 + 8 * p + v) 7 = nI (if 0 < am_lost P n v then 1 else 0)) → (∀ v, v < 8 → τ.1 (12 + 3 * p) v = nI (am_lost P n v)) → xc_fr p σ τ → xk_X K (xk_vw (xc G)) τ 83 [(0, .ref (xk_wA (xc G) (10 + 3 * p))), (1, .int (nI u))] [] := by
    intro m
    induction m with
    | zero =>
      intro u τ hu hpl2 hh hlo hf
      refine x_iload_n hE d_P_exchangeBlows_83 1 rfl ?_
      refine x_aload_n hE d_P_exchangeBlows_84 0 rfl ?_
      refine gf_P_26 hc hp d_P_exchangeBlows_85 hpl2.1 ?_
      first | refine xn_icmp_ge hE d_P_exchangeBlows_88 (fun h => ?_) (fun h => ?_) | refine x_icmp_ge hE d_P_exchangeBlows_88 (fun h => ?_) (fun h => ?_)
      · skip
        have e0 : u = n := by omega
        subst e0
        exact x_ret hc d_P_exchangeBlows_112 (⟨hpl2, hh, hf⟩)
      · exact absurd h (by omega)
    | succ m ih =>
      intro u τ hu hpl2 hh hlo hf
      have hat := hpl2.2 u (by omega)
      simp only [Nat.lt_irrefl, if_false] at hat
      have hx := hok u (by omega)
      have hle := am_lost_le P n u
      refine x_iload_n hE d_P_exchangeBlows_83 1 rfl ?_
      refine x_aload_n hE d_P_exchangeBlows_84 0 rfl ?_
      refine gf_P_26 hc hp d_P_exchangeBlows_85 hpl2.1 ?_
      first | refine xn_icmp_ge hE d_P_exchangeBlows_88 (fun h => ?_) (fun h => ?_) | refine x_icmp_ge hE d_P_exchangeBlows_88 (fun h => ?_) (fun h => ?_)
      · exact absurd h (by omega)
      · skip
        refine x_aload_n hE d_P_exchangeBlows_91 0 rfl ?_
        refine gf_P_11 hc hp d_P_exchangeBlows_92 ?_
        refine x_iload_n hE d_P_exchangeBlows_95 1 rfl ?_
        refine x_aald (b := 17 + 8 * p) hc (xc_shV hp) rfl (by omega) (by decide) d_P_exchangeBlows_96 ?_
        refine x_aload_n hE d_P_exchangeBlows_97 0 rfl ?_
        refine gf_P_17 hc hp d_P_exchangeBlows_98 ?_
        refine x_iload_n hE d_P_exchangeBlows_101 1 rfl ?_
        refine x_iald hc (xc_shO hp) rfl (by omega) (by decide) d_P_exchangeBlows_102 (hlo u (by omega)) ?_
        refine ca_P_170 hc (by omega) d_P_exchangeBlows_103 (k_U_suffer (by omega) hat hx.1 (by omega)) (fun τ hq => ?_)
        obtain ⟨f1, f2, f3⟩ := hq
        refine x_iinc 1 (nI (_ + 1)) [(1, _), (0, _)] hE d_P_exchangeBlows_106 rfl (nI_inc _) (by decide) rfl ?_
        refine x_goto hE d_P_exchangeBlows_109 ?_
        refine x_lv [1, 0] (lv' := [(0, _), (1, _)]) rfl ?_
        refine ih (u + 1) _ (by omega) ?_ (fun v hv => ?_) (fun v hv => ?_) (hf.tr (f2.fr (by omega)))
        · have h5 := hpl2.set hp hn (show u < 8 by omega) f1 f2.one
          have e5 : (am_set (fun v => if v < u then am_hurt (P v) (am_lost P n v) else P v) u (am_hurt (P u) (am_lost P n u))) = (fun v => if v < u + 1 then am_hurt (P v) (am_lost P n v) else P v) := by
            funext v
            by_cases e : v = u
            · subst e; rw [am_set_s, if_pos (by omega)]
            · rw [am_set_n e]
              by_cases e2 : v < u
              · rw [if_pos e2, if_pos (by omega)]
              · rw [if_neg e2, if_neg (by omega)]
          rw [e5] at h5
          exact h5
        · by_cases e : v = u
          · subst e; exact f3
          · rw [f2.2.1 _ (by omega)]; exact hh v (by omega)
        · rw [f2.2.1 _ (by omega)]; exact hlo v hv
  have first : ∀ (m u : Nat) (τ : xk_St), u + m = n → (∀ v, v < 8 → τ.1 (12 + 3 * p) v = nI (am_lost P u v)) → τ.2 = σ.2 → (∀ k, k ≠ 12 + 3 * p → τ.1 k = σ.1 k) → xk_X K (xk_vw (xc G)) τ 10 [(0, .ref (xk_wA (xc G) (10 + 3 * p))), (1, .int (nI u))] [] := by
    intro m
    induction m with
    | zero =>
      intro u τ hu hlo h2 hk
      have hpl2 : xc_pl p n P τ := hpl.mv hn (fun k hk2 => hk k (by omega))
      refine x_iload_n hE d_P_exchangeBlows_10 1 rfl ?_
      refine x_aload_n hE d_P_exchangeBlows_11 0 rfl ?_
      refine gf_P_26 hc hp d_P_exchangeBlows_12 hpl2.1 ?_
      first | refine xn_icmp_ge hE d_P_exchangeBlows_15 (fun h => ?_) (fun h => ?_) | refine x_icmp_ge hE d_P_exchangeBlows_15 (fun h => ?_) (fun h => ?_)
      · skip
        refine x_iconst (nI 0) hE d_P_exchangeBlows_81 (by decide) ?_
        refine x_istore_n [(1, _), (0, _)] hE d_P_exchangeBlows_82 rfl (by decide) rfl ?_
        refine x_lv [1, 0] (lv' := [(0, _), (1, _)]) rfl ?_
        have e0 : u = n := by omega
        subst e0
        refine second u 0 τ (by omega) ?_ (fun v hv => absurd hv (Nat.not_lt_zero _)) hlo ⟨h2, fun k hk2 => hk k (by omega), fun k h3 h4 => by rw [hk k (by omega)]; exact ⟨rfl, rfl⟩⟩
        simp only [Nat.not_lt_zero, if_false]
        exact hpl2
      · exact absurd h (by omega)
    | succ m ih =>
      intro u τ hu hlo h2 hk
      have hpl2 : xc_pl p n P τ := hpl.mv hn (fun k hk2 => hk k (by omega))
      have hat := hpl2.2 u (by omega)
      have hx := hok u (by omega)
      have ho := hx.2.2.1
      have next : ∀ (τ2 : xk_St), (∀ v, v < 8 → τ2.1 (12 + 3 * p) v = nI (am_lost P (u + 1) v)) → τ2.2 = σ.2 → (∀ k, k ≠ 12 + 3 * p → τ2.1 k = σ.1 k) → xk_X K (xk_vw (xc G)) τ2 75 [(0, .ref (xk_wA (xc G) (10 + 3 * p))), (1, .int (nI u))] [] := by
        intro τ2 g1 g2 g3
        refine x_iinc 1 (nI (_ + 1)) [(1, _), (0, _)] hE d_P_exchangeBlows_75 rfl (nI_inc _) (by decide) rfl ?_
        refine x_goto hE d_P_exchangeBlows_78 ?_
        refine x_lv [1, 0] (lv' := [(0, _), (1, _)]) rfl ?_
        exact ih (u + 1) τ2 (by omega) g1 g2 g3
      have skip : am_hits P u = false → xk_X K (xk_vw (xc G)) τ 75 [(0, .ref (xk_wA (xc G) (10 + 3 * p))), (1, .int (nI u))] [] := by
        intro hh
        refine next τ (fun v hv => ?_) h2 hk
        simp only [am_lost]
        rw [hh, if_neg (by simp)]
        exact hlo v hv
      refine x_iload_n hE d_P_exchangeBlows_10 1 rfl ?_
      refine x_aload_n hE d_P_exchangeBlows_11 0 rfl ?_
      refine gf_P_26 hc hp d_P_exchangeBlows_12 hpl2.1 ?_
      first | refine xn_icmp_ge hE d_P_exchangeBlows_15 (fun h => ?_) (fun h => ?_) | refine x_icmp_ge hE d_P_exchangeBlows_15 (fun h => ?_) (fun h => ?_)
      · exact absurd h (by omega)
      · skip
        refine x_aload_n hE d_P_exchangeBlows_18 0 rfl ?_
        refine gf_P_11 hc hp d_P_exchangeBlows_19 ?_
        refine x_iload_n hE d_P_exchangeBlows_22 1 rfl ?_
        refine x_aald (b := 17 + 8 * p) hc (xc_shV hp) rfl (by omega) (by decide) d_P_exchangeBlows_23 ?_
        refine gf_P_58 hc (by omega) d_P_exchangeBlows_24 hat.2.2.2.1 ?_
        refine x_iconst (nI 2) hE d_P_exchangeBlows_27 (by decide) ?_
        first | refine xn_icmp_ne hE d_P_exchangeBlows_28 (fun ho2 => ?_) (fun ho2 => ?_) | refine x_icmp_ne hE d_P_exchangeBlows_28 (fun ho2 => ?_) (fun ho2 => ?_)
        · exact skip (by simp [am_hits, ho2])
        · skip
          have hal := am_ok_alive hx (by omega)
          have haim := hx.2.2.2.2.1 ho2
          refine x_aload_n hE d_P_exchangeBlows_31 0 rfl ?_
          refine gf_P_11 hc hp d_P_exchangeBlows_32 ?_
          refine x_iload_n hE d_P_exchangeBlows_35 1 rfl ?_
          refine x_aald (b := 17 + 8 * p) hc (xc_shV hp) rfl (by omega) (by decide) d_P_exchangeBlows_36 ?_
          refine x_aload_n hE d_P_exchangeBlows_37 0 rfl ?_
          refine gf_P_11 hc hp d_P_exchangeBlows_38 ?_
          refine x_aload_n hE d_P_exchangeBlows_41 0 rfl ?_
          refine gf_P_11 hc hp d_P_exchangeBlows_42 ?_
          refine x_iload_n hE d_P_exchangeBlows_45 1 rfl ?_
          refine x_aald (b := 17 + 8 * p) hc (xc_shV hp) rfl (by omega) (by decide) d_P_exchangeBlows_46 ?_
          refine gf_P_113 hc (by omega) d_P_exchangeBlows_47 hat.2.2.2.2.1 ?_
          refine x_aald (b := 17 + 8 * p) hc (xc_shV hp) rfl (by omega) (by decide) d_P_exchangeBlows_50 ?_
          refine ca_P_166 hc d_P_exchangeBlows_51 (k_P_reaches hp hn (show u < n by omega) haim hpl2 hok hal) (fun r τ hq => ?_)
          obtain ⟨rfl, rfl⟩ := hq
          by_cases hre : 0 < am_pts (P (am_aim (P u))) ∧ am_dist (am_til (P u)) (am_til (P (am_aim (P u)))) = 1
          · rw [if_pos hre]
            first | refine xn_if_eq hE d_P_exchangeBlows_54 (fun z => ?_) (fun z => ?_) | refine x_if_eq hE d_P_exchangeBlows_54 (fun z => ?_) (fun z => ?_)
            · exact absurd z (by decide)
            · skip
              have hle := am_lost_le P u (am_aim (P u))
              refine x_aload_n hE d_P_exchangeBlows_57 0 rfl ?_
              refine gf_P_17 hc hp d_P_exchangeBlows_58 ?_
              refine x_aload_n hE d_P_exchangeBlows_61 0 rfl ?_
              refine gf_P_11 hc hp d_P_exchangeBlows_62 ?_
              refine x_iload_n hE d_P_exchangeBlows_65 1 rfl ?_
              refine x_aald (b := 17 + 8 * p) hc (xc_shV hp) rfl (by omega) (by decide) d_P_exchangeBlows_66 ?_
              refine gf_P_113 hc (by omega) d_P_exchangeBlows_67 hat.2.2.2.2.1 ?_
              refine x_dup2 hE d_P_exchangeBlows_70 rfl rfl ?_
              refine x_iald hc (xc_shO hp) rfl (by omega) (by decide) d_P_exchangeBlows_71 (hlo _ (by omega)) ?_
              refine x_iconst (nI 3) hE d_P_exchangeBlows_72 (by decide) ?_
              first | refine xn_iadd hE d_P_exchangeBlows_73 ?_ | refine x_iadd hE d_P_exchangeBlows_73 ?_
              refine x_iast hc (xc_shO hp) rfl (by omega) (by decide) d_P_exchangeBlows_74 ?_
              refine next _ (fun v hv => ?_) h2 (fun k hk2 => by rw [xk_up_o hk2]; exact hk k hk2)
              have hh : am_hits P u = true := by simp [am_hits, ho2, hre.1, hre.2]
              simp only [am_lost]
              rw [hh, if_pos rfl, xk_up_s]
              by_cases e : v = am_aim (P u)
              · subst e; rw [if_pos rfl, am_set_s]
              · rw [if_neg e, am_set_n e]; exact hlo v hv
          · rw [if_neg hre]
            first | refine xn_if_eq hE d_P_exchangeBlows_54 (fun z => ?_) (fun z => ?_) | refine x_if_eq hE d_P_exchangeBlows_54 (fun z => ?_) (fun z => ?_)
            · refine skip ?_
              cases hh : am_hits P u with
              | false => rfl
              | true =>
                simp [am_hits] at hh
                exact absurd ⟨hh.1.2, hh.2⟩ hre
            · exact absurd rfl z
  refine first n 0 _ (by omega) (fun v hv => ?_) rfl (fun k hk => xk_row_o hk)
  rw [xk_row_s, if_pos hv]
  rfl
theorem k_P_restAll (hp : p < 2) (hn : n ≤ 8) (hpl : xc_pl p n P σ) (hok : am_okP n P) {q : Nat → Nat} (hq : ∀ u, u < n → σ.1 (17 + 8 * p + u) 7 = nI (if 0 < q u then 1 else 0)) : xk_M (xc G) 2 y_P_restAll [.ref (xk_wA (xc G) (10 + 3 * p))] σ (xk_pv (fun τ => xc_pl p n (fun u => if u < n then am_rest (P u) (q u) else P u) τ ∧ xc_fr p σ τ)) := by
  refine xk_enter (by decide) (Nat.le_of_ble_eq_true rfl) (fun K hE hc => ?_)
  show xk_X K _ _ 0 [(0, _)] []
  refine x_iconst (nI 0) hE d_P_restAll_0 (by decide) ?_
  refine x_istore_n [(1, _), (0, _)] hE d_P_restAll_1 rfl (by decide) rfl ?_
  refine x_lv [1, 0] (lv' := [(0, _), (1, _)]) rfl ?_
  have loop : ∀ (m u : Nat) (τ : xk_St), u + m = n → xc_pl p n (fun v => if v < u then am_rest (P v) (q v) else P v) τ → (∀ v, u ≤ v → v < n → τ.1 (17 + 8 * p + v) 7 = nI (if 0 < q v then 1 else 0)) → xc_fr p σ τ → xk_X K (xk_vw (xc G)) τ 2 [(0, .ref (xk_wA (xc G) (10 + 3 * p))), (1, .int (nI u))] [] := by
    intro m
    induction m with
    | zero =>
      intro u τ hu hpl2 hh hf
      refine x_iload_n hE d_P_restAll_2 1 rfl ?_
      refine x_aload_n hE d_P_restAll_3 0 rfl ?_
      refine gf_P_26 hc hp d_P_restAll_4 hpl2.1 ?_
      first | refine xn_icmp_ge hE d_P_restAll_7 (fun h => ?_) (fun h => ?_) | refine x_icmp_ge hE d_P_restAll_7 (fun h => ?_) (fun h => ?_)
      · skip
        have e0 : u = n := by omega
        subst e0
        exact x_ret hc d_P_restAll_25 (⟨hpl2, hf⟩)
      · exact absurd h (by omega)
    | succ m ih =>
      intro u τ hu hpl2 hh hf
      have hat := hpl2.2 u (by omega)
      simp only [Nat.lt_irrefl, if_false] at hat
      have hx := hok u (by omega)
      refine x_iload_n hE d_P_restAll_2 1 rfl ?_
      refine x_aload_n hE d_P_restAll_3 0 rfl ?_
      refine gf_P_26 hc hp d_P_restAll_4 hpl2.1 ?_
      first | refine xn_icmp_ge hE d_P_restAll_7 (fun h => ?_) (fun h => ?_) | refine x_icmp_ge hE d_P_restAll_7 (fun h => ?_) (fun h => ?_)
      · exact absurd h (by omega)
      · skip
        refine x_aload_n hE d_P_restAll_10 0 rfl ?_
        refine gf_P_11 hc hp d_P_restAll_11 ?_
        refine x_iload_n hE d_P_restAll_14 1 rfl ?_
        refine x_aald (b := 17 + 8 * p) hc (xc_shV hp) rfl (by omega) (by decide) d_P_restAll_15 ?_
        refine ca_P_174 hc (by omega) d_P_restAll_16 (k_U_rest (by omega) hat hx.1 hx.2.2.1 (hh u (by omega) (by omega))) (fun τ hq => ?_)
        obtain ⟨f1, f2⟩ := hq
        refine x_iinc 1 (nI (_ + 1)) [(1, _), (0, _)] hE d_P_restAll_19 rfl (nI_inc _) (by decide) rfl ?_
        refine x_goto hE d_P_restAll_22 ?_
        refine x_lv [1, 0] (lv' := [(0, _), (1, _)]) rfl ?_
        refine ih (u + 1) _ (by omega) ?_ (fun v h1 h2 => by rw [f2.2.1 _ (by omega)]; exact hh v (by omega) h2) (hf.tr (f2.fr (by omega)))
        have h5 := hpl2.set hp hn (show u < 8 by omega) f1 f2.one
        have e5 : (am_set (fun v => if v < u then am_rest (P v) (q v) else P v) u (am_rest (P u) (q u))) = (fun v => if v < u + 1 then am_rest (P v) (q v) else P v) := by
          funext v
          by_cases e : v = u
          · subst e; rw [am_set_s, if_pos (by omega)]
          · rw [am_set_n e]
            by_cases e2 : v < u
            · rw [if_pos e2, if_pos (by omega)]
            · rw [if_neg e2, if_neg (by omega)]
        rw [e5] at h5
        exact h5
  refine loop n 0 σ (by omega) ?_ (fun v _ h2 => hq v h2) xc_fr.rf
  simp only [Nat.not_lt_zero, if_false]
  exact hpl
theorem k_P_sum (hp : p < 2) (hn : n ≤ 8) (hpl : xc_pl p n P σ) (hok : am_okP n P) : xk_M (xc G) 1 y_P_sum [.ref (xk_wA (xc G) (10 + 3 * p))] σ (xk_pi (fun r τ => r = am_sum P n ∧ σ = τ)) := by
  refine xk_enter (by decide) (Nat.le_of_ble_eq_true rfl) (fun K hE hc => ?_)
  show xk_X K _ _ 0 [(0, _)] []
  refine x_bipush (nI 17) hE d_P_sum_0 (by decide) ?_
  refine x_istore_n [(1, _), (0, _)] hE d_P_sum_2 rfl (by decide) rfl ?_
  refine x_iconst (nI 0) hE d_P_sum_3 (by decide) ?_
  refine x_istore_n [(2, _), (1, _), (0, _)] hE d_P_sum_4 rfl (by decide) rfl ?_
  refine x_lv [2, 1, 0] (lv' := [(0, _), (1, _), (2, _)]) rfl ?_
  have loop : ∀ (m u : Nat), u + m = n → xk_X K (xk_vw (xc G)) σ 5 [(0, .ref (xk_wA (xc G) (10 + 3 * p))), (1, .int (am_sum P u)), (2, .int (nI u))] [] := by
    intro m
    induction m with
    | zero =>
      intro u hu
      refine x_iload_n hE d_P_sum_5 2 rfl ?_
      refine x_aload_n hE d_P_sum_6 0 rfl ?_
      refine gf_P_26 hc hp d_P_sum_7 hpl.1 ?_
      first | refine xn_icmp_ge hE d_P_sum_10 (fun h => ?_) (fun h => ?_) | refine x_icmp_ge hE d_P_sum_10 (fun h => ?_) (fun h => ?_)
      · skip
        refine x_iload_n hE d_P_sum_73 1 rfl ?_
        have e0 : u = n := by omega
        subst e0
        exact x_iret hc d_P_sum_74 (⟨rfl, rfl⟩)
      · exact absurd h (by omega)
    | succ m ih =>
      intro u hu
      have hat := hpl.2 u (by omega)
      have hx := hok u (by omega)
      have hb := hx.1
      have next : ∀ v : Int32, v = (if am_pts (P u) = 0 then nI 0 else nI (am_til (P u))) → xk_X K (xk_vw (xc G)) σ 47 [(3, .ref (xk_wA (xc G) (17 + 8 * p + u))), (0, .ref (xk_wA (xc G) (10 + 3 * p))), (1, .int (am_sum P u)), (2, .int (nI u))] [.int v, .int (nI 31 * am_sum P u + nI 64 * nI (am_pts (P u)))] := by
        intro v hv
        refine x_iadd hE d_P_sum_47 ?_
        refine x_istore_n [(1, _), (3, _), (0, _), (2, _)] hE d_P_sum_48 rfl (by decide) rfl ?_
        refine x_bipush (nI 31) hE d_P_sum_49 (by decide) ?_
        refine x_iload_n hE d_P_sum_51 0 rfl ?_
        refine x_imul hE d_P_sum_52 ?_
        refine x_bipush (nI 8) hE d_P_sum_53 (by decide) ?_
        refine x_aload_n hE d_P_sum_55 1 rfl ?_
        refine gf_P_180 hc (by omega) d_P_sum_56 hat.2.2.2.2.2.1 ?_
        refine x_imul hE d_P_sum_59 ?_
        refine x_iadd hE d_P_sum_60 ?_
        refine x_aload_n hE d_P_sum_61 1 rfl ?_
        refine gf_P_58 hc (by omega) d_P_sum_62 hat.2.2.2.1 ?_
        refine x_iadd hE d_P_sum_65 ?_
        refine x_istore_n [(1, _), (3, _), (0, _), (2, _)] hE d_P_sum_66 rfl (by decide) rfl ?_
        refine x_iinc 3 (nI (_ + 1)) [(2, _), (1, _), (3, _), (0, _)] hE d_P_sum_67 rfl (nI_inc _) (by decide) rfl ?_
        refine x_goto hE d_P_sum_70 ?_
        refine x_lv [3, 1, 0] (lv' := [(0, _), (1, _), (2, _)]) rfl ?_
        have e9 := ih (u + 1) (by omega)
        simp only [am_sum] at e9
        rw [hv]
        exact e9
      refine x_iload_n hE d_P_sum_5 2 rfl ?_
      refine x_aload_n hE d_P_sum_6 0 rfl ?_
      refine gf_P_26 hc hp d_P_sum_7 hpl.1 ?_
      first | refine xn_icmp_ge hE d_P_sum_10 (fun h => ?_) (fun h => ?_) | refine x_icmp_ge hE d_P_sum_10 (fun h => ?_) (fun h => ?_)
      · exact absurd h (by omega)
      · skip
        refine x_aload_n hE d_P_sum_13 0 rfl ?_
        refine gf_P_11 hc hp d_P_sum_14 ?_
        refine x_iload_n hE d_P_sum_17 2 rfl ?_
        refine x_aald (b := 17 + 8 * p) hc (xc_shV hp) rfl (by omega) (by decide) d_P_sum_18 ?_
        refine x_astore_n [(3, _), (0, _), (1, _), (2, _)] hE d_P_sum_19 rfl (by decide) rfl ?_
        refine x_bipush (nI 31) hE d_P_sum_20 (by decide) ?_
        refine x_iload_n hE d_P_sum_22 2 rfl ?_
        refine x_imul hE d_P_sum_23 ?_
        refine x_bipush (nI 64) hE d_P_sum_24 (by decide) ?_
        refine x_aload_n hE d_P_sum_26 0 rfl ?_
        refine gf_P_177 hc (by omega) d_P_sum_27 hat.1 ?_
        refine x_imul hE d_P_sum_30 ?_
        refine x_iadd hE d_P_sum_31 ?_
        refine x_aload_n hE d_P_sum_32 0 rfl ?_
        refine ca_P_40 hc (by omega) d_P_sum_33 (k_U_isDead (by omega) hat.1 (by omega)) (fun r τ hq => ?_)
        obtain ⟨rfl, rfl⟩ := hq
        by_cases hd : am_pts (P u) = 0
        · rw [if_pos hd]
          first | refine xn_if_eq hE d_P_sum_36 (fun z => ?_) (fun z => ?_) | refine x_if_eq hE d_P_sum_36 (fun z => ?_) (fun z => ?_)
          · exact absurd z (by decide)
          · skip
            refine x_iconst (nI 0) hE d_P_sum_39 (by decide) ?_
            refine x_goto hE d_P_sum_40 ?_
            exact next _ (by rw [if_pos hd])
        · rw [if_neg hd]
          first | refine xn_if_eq hE d_P_sum_36 (fun z => ?_) (fun z => ?_) | refine x_if_eq hE d_P_sum_36 (fun z => ?_) (fun z => ?_)
          · skip
            refine x_aload_n hE d_P_sum_43 0 rfl ?_
            refine gf_P_75 hc (by omega) d_P_sum_44 (hat.2.1 (by omega)) ?_
            exact next _ (by rw [if_neg hd])
          · exact absurd rfl z
  exact loop n 0 (by omega)
end XP3
end
section
/-! PLAY: a tick -/
section XP4
variable {G : xk_D} {σ : xk_St} {p n : Nat} {P : am_P} {W : Nat → Bool}
theorem am_sum_cong {P Q : am_P} : ∀ n, (∀ u, u < n → P u = Q u) → am_sum P n = am_sum Q n
  | 0, _ => rfl
  | n + 1, h => by
    simp only [am_sum]
    rw [am_sum_cong n (fun u hu => h u (by omega)), h n (by omega)]
theorem xc_pl.cong {P Q : am_P} (h : xc_pl p n P σ) (e : ∀ u, u < n → P u = Q u) : xc_pl p n Q σ := ⟨h.1, fun u hu => by rw [← e u hu]; exact h.2 u hu⟩
theorem k_P_playTick (hp : p < 2) (hn : n ≤ 8) (hpl : xc_pl p n P σ) (hok : am_okP n P) (hW : xc_W W σ) {cnt t : Nat} {L : am_L} (ht : t < 2 ^ 31) (hL : xc_L cnt L σ) (hLo : am_okL n cnt L) : xk_M (xc G) 5 y_P_playTick [.ref (xk_wA (xc G) (10 + 3 * p)), .int (nI t), .ref (xk_wA (xc G) 5)] σ (xk_pi (fun r τ => r = am_num W n cnt L t P ∧ xc_pl p n (am_tick W n cnt L t P) τ ∧ xc_fr p σ τ)) := by
  refine xk_enter (by decide) (Nat.le_of_ble_eq_true rfl) (fun K hE hc => ?_)
  show xk_X K _ _ 0 [(0, _), (1, _), (2, _)] []
  refine x_aload_n hE d_P_playTick_0 0 rfl ?_
  refine x_iload_n hE d_P_playTick_1 1 rfl ?_
  refine x_aload_n hE d_P_playTick_2 2 rfl ?_
  refine ca_P_54 hc hp d_P_playTick_3 (k_P_giveOrders hp hn hpl hok hL hLo) (fun τ hq => ?_)
  obtain ⟨o1, o2⟩ := hq
  have hokO := am_okP_obey (t := nI t) hok hLo cnt (Nat.le_refl _)
  refine x_iconst (nI 0) hE d_P_playTick_6 (by decide) ?_
  refine x_istore_n [(3, _), (0, _), (1, _), (2, _)] hE d_P_playTick_7 rfl (by decide) rfl ?_
  refine x_lv [1, 2, 3, 0] (lv' := [(0, _), (1, _), (2, _), (3, _)]) rfl ?_
  have fin : ∀ (τ : xk_St), xc_pl p n (am_tick W n cnt L t P) τ → xc_fr p σ τ → xk_X K (xk_vw (xc G)) τ 59 [(0, .ref (xk_wA (xc G) (10 + 3 * p))), (1, .int (nI t)), (2, .ref (xk_wA (xc G) 5)), (3, .int (nI n))] [] := by
    intro τ h1 h2
    refine x_aload_n hE d_P_playTick_59 0 rfl ?_
    refine ca_P_71 hc hp d_P_playTick_60 (k_P_sum hp hn h1 (am_okP_tick hok hLo)) (fun r τ hq => ?_)
    obtain ⟨rfl, rfl⟩ := hq
    exact x_iret hc d_P_playTick_63 (⟨rfl, h1, h2⟩)
  have loop : ∀ (m u : Nat) (τ : xk_St), u + m = n → xc_pl p n (am_moves W n (am_obey L (nI t) P cnt) u) τ → xc_fr p σ τ → xk_X K (xk_vw (xc G)) τ 8 [(0, .ref (xk_wA (xc G) (10 + 3 * p))), (1, .int (nI t)), (2, .ref (xk_wA (xc G) 5)), (3, .int (nI u))] [] := by
    intro m
    induction m with
    | zero =>
      intro u τ hu hpl2 hf
      refine x_iload_n hE d_P_playTick_8 3 rfl ?_
      refine x_aload_n hE d_P_playTick_9 0 rfl ?_
      refine gf_P_26 hc hp d_P_playTick_10 hpl2.1 ?_
      first | refine xn_icmp_ge hE d_P_playTick_13 (fun h => ?_) (fun h => ?_) | refine x_icmp_ge hE d_P_playTick_13 (fun h => ?_) (fun h => ?_)
      · skip
        have e0 : u = n := by omega
        subst e0
        have hok2 := am_okP_moves (W := W) hokO u (Nat.le_refl _)
        refine x_aload_n hE d_P_playTick_44 0 rfl ?_
        refine ca_P_65 hc hp d_P_playTick_45 (k_P_exchangeBlows hp hn hpl2 hok2) (fun τ hq => ?_)
        obtain ⟨b1, b2, b3⟩ := hq
        have hok3 : am_okP u (am_blow u (am_moves W u (am_obey L (nI t) P cnt) u)) := fun v hv => by
          unfold am_blow
          rw [if_pos hv]
          exact am_ok_hurt (hok2 v hv)
        refine x_iload_n hE d_P_playTick_48 1 rfl ?_
        refine x_iconst (nI 4) hE d_P_playTick_49 (by decide) ?_
        first | refine xn_irem hE d_P_playTick_50 ?_ | refine x_irem hE d_P_playTick_50 (by decide) ?_
        refine x_iconst (nI 3) hE d_P_playTick_51 (by decide) ?_
        first | refine xn_icmp_ne hE d_P_playTick_52 (fun h4 => ?_) (fun h4 => ?_) | refine x_icmp_ne hE d_P_playTick_52 (fun h4 => ?_) (fun h4 => ?_)
        · refine fin _ (b1.cong (fun v hv => ?_)) (hf.tr b3)
          unfold am_tick am_calm
          rw [if_neg (fun q => h4 q.2)]
        · skip
          refine x_aload_n hE d_P_playTick_55 0 rfl ?_
          refine ca_P_68 hc hp d_P_playTick_56 (k_P_restAll hp hn b1 hok3 b2) (fun τ hq => ?_)
          obtain ⟨r1, r2⟩ := hq
          refine fin _ (r1.cong (fun v hv => ?_)) ((hf.tr b3).tr r2)
          unfold am_tick am_calm
          rw [if_pos hv, if_pos ⟨hv, h4⟩]
      · exact absurd h (by omega)
    | succ m ih =>
      intro u τ hu hpl2 hf
      have hok2 := am_okP_moves (W := W) hokO u (by omega)
      have hat := hpl2.2 u (by omega)
      have ho := (hok2 u (by omega)).2.2.1
      have next : ∀ (τ2 : xk_St), xc_pl p n (am_moves W n (am_obey L (nI t) P cnt) (u + 1)) τ2 → xc_fr p σ τ2 → xk_X K (xk_vw (xc G)) τ2 38 [(0, .ref (xk_wA (xc G) (10 + 3 * p))), (1, .int (nI t)), (2, .ref (xk_wA (xc G) 5)), (3, .int (nI u))] [] := by
        intro τ2 g1 g2
        refine x_iinc 3 (nI (_ + 1)) [(3, _), (0, _), (1, _), (2, _)] hE d_P_playTick_38 rfl (nI_inc _) (by decide) rfl ?_
        refine x_goto hE d_P_playTick_41 ?_
        refine x_lv [1, 2, 3, 0] (lv' := [(0, _), (1, _), (2, _), (3, _)]) rfl ?_
        exact ih (u + 1) τ2 (by omega) g1 g2
      refine x_iload_n hE d_P_playTick_8 3 rfl ?_
      refine x_aload_n hE d_P_playTick_9 0 rfl ?_
      refine gf_P_26 hc hp d_P_playTick_10 hpl2.1 ?_
      first | refine xn_icmp_ge hE d_P_playTick_13 (fun h => ?_) (fun h => ?_) | refine x_icmp_ge hE d_P_playTick_13 (fun h => ?_) (fun h => ?_)
      · exact absurd h (by omega)
      · skip
        refine x_aload_n hE d_P_playTick_16 0 rfl ?_
        refine gf_P_11 hc hp d_P_playTick_17 ?_
        refine x_iload_n hE d_P_playTick_20 3 rfl ?_
        refine x_aald (b := 17 + 8 * p) hc (xc_shV hp) rfl (by omega) (by decide) d_P_playTick_21 ?_
        refine gf_P_58 hc (by omega) d_P_playTick_22 hat.2.2.2.1 ?_
        first | refine xn_if_eq hE d_P_playTick_25 (fun h2 => ?_) (fun h2 => ?_) | refine x_if_eq hE d_P_playTick_25 (fun h2 => ?_) (fun h2 => ?_)
        · refine next τ ?_ hf
          simp only [am_moves]
          rw [if_pos h2]
          exact hpl2
        · skip
          refine x_aload_n hE d_P_playTick_28 0 rfl ?_
          refine x_aload_n hE d_P_playTick_29 0 rfl ?_
          refine gf_P_11 hc hp d_P_playTick_30 ?_
          refine x_iload_n hE d_P_playTick_33 3 rfl ?_
          refine x_aald (b := 17 + 8 * p) hc (xc_shV hp) rfl (by omega) (by decide) d_P_playTick_34 ?_
          refine ca_P_61 hc hp d_P_playTick_35 (k_P_follow hp hn (show u < n by omega) hpl2 hok2 h2 (hW.mv hf.1)) (fun τ hq => ?_)
          obtain ⟨f1, f2⟩ := hq
          refine next _ ?_ (hf.tr (f2.fr (by omega)))
          simp only [am_moves]
          rw [if_neg h2]
          exact hpl2.set hp hn (by omega) f1 f2
  exact loop n 0 _ (by omega) o1 o2
end XP4
end
section
/-! THE WHOLE STATE, and what each call does to it -/
/-- walls; how many units; their sides and starts; begun; played; numbers; how many entries, and each; the units -/
abbrev am_S : Type := (Nat → Bool) × Nat × (Nat → Nat) × (Nat → Nat) × Bool × Nat × (Nat → Int32) × Nat × am_L × am_P
abbrev aW (S : am_S) : Nat → Bool := S.1
abbrev aN (S : am_S) : Nat := S.2.1
abbrev aSd (S : am_S) : Nat → Nat := S.2.2.1
abbrev aSt (S : am_S) : Nat → Nat := S.2.2.2.1
abbrev aBg (S : am_S) : Bool := S.2.2.2.2.1
abbrev aPl (S : am_S) : Nat := S.2.2.2.2.2.1
abbrev aNm (S : am_S) : Nat → Int32 := S.2.2.2.2.2.2.1
abbrev aCn (S : am_S) : Nat := S.2.2.2.2.2.2.2.1
abbrev aL (S : am_S) : am_L := S.2.2.2.2.2.2.2.2.1
abbrev aP (S : am_S) : am_P := S.2.2.2.2.2.2.2.2.2
def am_okS (S : am_S) : Prop := aN S ≤ 8 ∧ (∀ u, u < aN S → aSd S u < 2 ∧ aSt S u < 64) ∧ aPl S ≤ 200 ∧ am_okL (aN S) (aCn S) (aL S) ∧ am_okP (aN S) (aP S)
def am_new : am_S := (fun _ => false, 0, fun _ => 0, fun _ => 0, false, 0, fun _ => 0, 0, fun _ => (0, 0, 0, 0), fun _ => (0, 0, 0, 0, 0, []))
def am_wall (S : am_S) (t b : Int32) : Int32 × am_S :=
  if aBg S = true ∨ ¬ am_has 64 t ∨ am_taken (aP S) t.toNatClampNeg (aN S) = true then (nI 0, S)
  else (nI 1, (am_set (aW S) t.toNatClampNeg (decide (b ≠ 0)), S.2))
def am_unit (S : am_S) (s t : Int32) : Int32 × am_S :=
  if aBg S = true then (-3, S)
  else if ¬ am_has 2 s ∨ ¬ am_has 64 t ∨ aW S t.toNatClampNeg = true ∨ am_taken (aP S) t.toNatClampNeg (aN S) = true then (-1, S)
  else if aN S = 8 then (-2, S)
  else (nI (aN S), (aW S, aN S + 1, am_set (aSd S) (aN S) s.toNatClampNeg, am_set (aSt S) (aN S) t.toNatClampNeg, aBg S, aPl S, aNm S, aCn S, aL S, am_set (aP S) (aN S) (20, t.toNatClampNeg, 0, 0, 0, [])))
def am_begin (S : am_S) : Int32 × am_S := if aBg S = true then (-3, S) else (nI (aN S), (aW S, aN S, aSd S, aSt S, true, S.2.2.2.2.2))
abbrev am_kind (n : Nat) (u k m : Int32) : Prop := k = nI 0 ∨ (k = nI 1 ∧ am_has 64 m) ∨ (k = nI 2 ∧ am_has n m ∧ ¬ m = u)
def am_command (S : am_S) (t u k m : Int32) : Int32 × am_S :=
  if ¬ (am_has (aN S) u ∧ am_kind (aN S) u k m) then (-1, S)
  else if aBg S = false ∨ t < nI (aPl S) then (-3, S)
  else if aCn S = 24 then (-2, S)
  else (nI (aCn S), (aW S, aN S, aSd S, aSt S, aBg S, aPl S, aNm S, aCn S + 1, am_set (aL S) (aCn S) (t, u.toNatClampNeg, k.toNatClampNeg, if k.toNatClampNeg = 0 then 0 else m.toNatClampNeg), aP S))
def am_forget (S : am_S) (k : Int32) : Int32 × am_S :=
  if ¬ am_has (aCn S) k then (nI 0, S) else (nI 1, (aW S, aN S, aSd S, aSt S, aBg S, aPl S, aNm S, aCn S - 1, am_del (aL S) k.toNatClampNeg, aP S))
def am_one (S : am_S) : am_S := (aW S, aN S, aSd S, aSt S, aBg S, aPl S + 1, am_set (aNm S) (aPl S) (am_num (aW S) (aN S) (aCn S) (aL S) (aPl S) (aP S)), aCn S, aL S, am_tick (aW S) (aN S) (aCn S) (aL S) (aPl S) (aP S))
def am_runs : Nat → am_S → am_S
  | 0, S => S
  | m + 1, S => am_runs m (am_one S)
def am_run (S : am_S) (m : Int32) : Int32 × am_S :=
  if m < nI 1 ∨ nI 20 < m then (-1, S)
  else if aBg S = false then (-3, S)
  else if 200 < aPl S + m.toNatClampNeg then (-2, S)
  else (nI (aPl S + m.toNatClampNeg), am_runs m.toNatClampNeg S)
def am_rp (S : am_S) : Nat → Nat → am_P → Int32
  | 0, _, _ => -1
  | f + 1, t, P => if am_num (aW S) (aN S) (aCn S) (aL S) t P = aNm S t then am_rp S f (t + 1) (am_tick (aW S) (aN S) (aCn S) (aL S) t P) else nI t
def am_replay (S : am_S) : Int32 := am_rp S (aPl S) 0 (fun u => (20, aSt S u, 0, 0, 0, []))
def am_number (S : am_S) (t : Int32) : Int32 := if am_has (aPl S) t then aNm S t.toNatClampNeg else nI 0
def am_tile (S : am_S) (u : Int32) : Int32 := if am_has (aN S) u ∧ 0 < am_pts (aP S u.toNatClampNeg) then nI (am_til (aP S u.toNatClampNeg)) else -1
def am_points (S : am_S) (u : Int32) : Int32 := if am_has (aN S) u then nI (am_pts (aP S u.toNatClampNeg)) else -1
def am_order (S : am_S) (u : Int32) : Int32 := if am_has (aN S) u then nI (am_ord (aP S u.toNatClampNeg) + 4 * am_aim (aP S u.toNatClampNeg)) else -1
def am_path (S : am_S) (u i : Int32) : Int32 := if am_has (aN S) u ∧ am_has (am_pth (aP S u.toNatClampNeg)).length i then nI ((am_pth (aP S u.toNatClampNeg)).getD i.toNatClampNeg 0) else -1
def am_steps (S : am_S) (a b : Int32) : Int32 :=
  if ¬ am_has 64 a ∨ ¬ am_has 64 b ∨ aW S a.toNatClampNeg = true ∨ aW S b.toNatClampNeg = true then -1
  else xc_dp (am_end (am_free (aW S) (fun _ => false) b.toNatClampNeg) a.toNatClampNeg b.toNatClampNeg) b.toNatClampNeg
def am_winner (S : am_S) : Int32 :=
  if am_liv (aSd S) (aP S) 0 (aN S) = true ∧ am_liv (aSd S) (aP S) 1 (aN S) = true then nI 2
  else if am_liv (aSd S) (aP S) 0 (aN S) = true then nI 0
  else if am_liv (aSd S) (aP S) 1 (aN S) = true then nI 1 else nI 3
theorem am_ok_new : am_okS am_new := ⟨by decide, fun u hu => absurd hu (Nat.not_lt_zero _), by decide, ⟨by decide, fun e he => absurd he (Nat.not_lt_zero _)⟩, fun u hu => absurd hu (Nat.not_lt_zero _)⟩
theorem am_ok_wall {S : am_S} (h : am_okS S) (t b : Int32) : am_okS (am_wall S t b).2 := by
  unfold am_wall
  split
  · exact h
  · exact h
theorem am_ok_more {n : Nat} {x : am_U} (h : am_ok n x) : am_ok (n + 1) x := ⟨h.1, h.2.1, h.2.2.1, h.2.2.2.1, fun e => Nat.lt_succ_of_lt (h.2.2.2.2.1 e), h.2.2.2.2.2⟩
theorem am_ok_unit {S : am_S} (h : am_okS S) (s t : Int32) : am_okS (am_unit S s t).2 := by
  unfold am_unit
  split
  · exact h
  · split
    · exact h
    · rename_i h2
      split
      · exact h
      · rename_i h3
        have hs : am_has 2 s := Classical.byContradiction (fun q => h2 (Or.inl q))
        have ht : am_has 64 t := Classical.byContradiction (fun q => h2 (Or.inr (Or.inl q)))
        obtain ⟨js, hjs, rfl⟩ := am_has_of (by decide) hs
        obtain ⟨jt, hjt, rfl⟩ := am_has_of (by decide) ht
        rw [nI_clamp (by omega), nI_clamp (by omega)]
        obtain ⟨g1, g2, g3, ⟨g4, g5⟩, g6⟩ := h
        refine ⟨by show aN S + 1 ≤ 8; omega, fun u hu => ?_, g3, ⟨g4, fun e he => ?_⟩, fun u hu => ?_⟩
        · have hu : u < aN S + 1 := hu
          show am_set (aSd S) (aN S) js u < 2 ∧ am_set (aSt S) (aN S) jt u < 64
          by_cases e : u = aN S
          · subst e; rw [am_set_s, am_set_s]; exact ⟨hjs, hjt⟩
          · rw [am_set_n e, am_set_n e]; exact g2 u (by omega)
        · obtain ⟨k1, k2, k3, k4⟩ := g5 e he
          exact ⟨Nat.lt_succ_of_lt k1, k2, k3, fun z => Nat.lt_succ_of_lt (k4 z)⟩
        · have hu : u < aN S + 1 := hu
          show am_ok (aN S + 1) (am_set (aP S) (aN S) (20, jt, 0, 0, 0, []) u)
          by_cases e : u = aN S
          · subst e
            rw [am_set_s]
            exact ⟨Nat.le_refl 20, hjt, Nat.zero_le _, (by decide : 0 < 64), fun e => absurd e (show ¬ (0 : Nat) = 2 by decide), (by decide : 0 < 3), Nat.zero_le _, fun t ht => absurd ht List.not_mem_nil, fun e => absurd e (show ¬ (20 : Nat) = 0 by decide)⟩
          · rw [am_set_n e]; exact am_ok_more (g6 u (by omega))
theorem am_ok_begin {S : am_S} (h : am_okS S) : am_okS (am_begin S).2 := by
  unfold am_begin
  split
  · exact h
  · exact h
theorem am_kind_of {n : Nat} {u k m : Int32} (hn : n ≤ 8) (h : am_kind n u k m) : ∃ kd mm : Nat, kd ≤ 2 ∧ k = nI kd ∧ (kd ≠ 0 → m = nI mm) ∧ mm < 64 ∧ (kd = 2 → mm < n) := by
  rcases h with rfl | ⟨rfl, h⟩ | ⟨rfl, h, -⟩
  · exact ⟨0, 0, by decide, rfl, fun e => absurd rfl e, by decide, fun e => absurd e (by decide)⟩
  · obtain ⟨j, hj, rfl⟩ := am_has_of (by decide) h
    exact ⟨1, j, by decide, rfl, fun _ => rfl, hj, fun e => absurd e (by decide)⟩
  · obtain ⟨j, hj, rfl⟩ := am_has_of (by omega) h
    exact ⟨2, j, by decide, rfl, fun _ => rfl, by omega, fun _ => hj⟩
theorem am_ok_command {S : am_S} (h : am_okS S) (t u k m : Int32) : am_okS (am_command S t u k m).2 := by
  unfold am_command
  split
  · exact h
  · rename_i h1
    split
    · exact h
    · split
      · exact h
      · rename_i h3
        have h1 := Classical.not_not.mp h1
        obtain ⟨g1, g2, g3, ⟨g4, g5⟩, g6⟩ := h
        obtain ⟨ju, hju, rfl⟩ := am_has_of (by omega) h1.1
        obtain ⟨kd, mm, k1, rfl, k3, k4, k5⟩ := am_kind_of g1 h1.2
        rw [nI_clamp (by omega), nI_clamp (by omega)]
        refine ⟨g1, g2, g3, ⟨by show aCn S + 1 ≤ 24; omega, fun e he => ?_⟩, g6⟩
        have he : e < aCn S + 1 := he
        show (am_set (aL S) (aCn S) _ e).2.1 < aN S ∧ (am_set (aL S) (aCn S) _ e).2.2.1 ≤ 2 ∧ (am_set (aL S) (aCn S) _ e).2.2.2 < 64 ∧ ((am_set (aL S) (aCn S) _ e).2.2.1 = 2 → (am_set (aL S) (aCn S) _ e).2.2.2 < aN S)
        by_cases e1 : e = aCn S
        · subst e1
          rw [am_set_s]
          by_cases e2 : kd = 0
          · subst e2
            rw [if_pos rfl]
            exact ⟨hju, Nat.zero_le _, (by decide : 0 < 64), fun z => absurd z (show ¬ (0 : Nat) = 2 by decide)⟩
          · rw [if_neg e2, k3 e2, nI_clamp (by omega)]
            exact ⟨hju, k1, k4, k5⟩
        · rw [am_set_n e1]
          exact g5 e (by omega)
theorem am_ok_forget {S : am_S} (h : am_okS S) (k : Int32) : am_okS (am_forget S k).2 := by
  unfold am_forget
  split
  · exact h
  · rename_i h1
    have h1 := Classical.not_not.mp h1
    obtain ⟨g1, g2, g3, ⟨g4, g5⟩, g6⟩ := h
    obtain ⟨j, hj, rfl⟩ := am_has_of (by omega) h1
    rw [nI_clamp (by omega)]
    refine ⟨g1, g2, g3, ⟨by show aCn S - 1 ≤ 24; omega, fun e he => ?_⟩, g6⟩
    have he : e < aCn S - 1 := he
    show (am_del (aL S) j e).2.1 < aN S ∧ (am_del (aL S) j e).2.2.1 ≤ 2 ∧ (am_del (aL S) j e).2.2.2 < 64 ∧ ((am_del (aL S) j e).2.2.1 = 2 → (am_del (aL S) j e).2.2.2 < aN S)
    unfold am_del
    split
    · exact g5 e (by omega)
    · exact g5 (e + 1) (by omega)
theorem am_ok_one {S : am_S} (h : am_okS S) (hp : aPl S < 200) : am_okS (am_one S) := by
  obtain ⟨g1, g2, g3, g4, g6⟩ := h
  exact ⟨g1, g2, (show aPl S + 1 ≤ 200 by omega), g4, am_okP_tick g6 g4⟩
theorem am_ok_runs : ∀ (m : Nat) {S : am_S}, am_okS S → aPl S + m ≤ 200 → am_okS (am_runs m S)
  | 0, _, h, _ => h
  | m + 1, S, h, hp => am_ok_runs m (am_ok_one h (by omega)) (by show aPl S + 1 + m ≤ 200; omega)
theorem am_runs_pl : ∀ (m : Nat) (S : am_S), aPl (am_runs m S) = aPl S + m
  | 0, _ => rfl
  | m + 1, S => by
    rw [am_runs, am_runs_pl m]
    show aPl S + 1 + m = aPl S + (m + 1)
    omega
theorem am_ok_run {S : am_S} (h : am_okS S) (m : Int32) : am_okS (am_run S m).2 := by
  unfold am_run
  split
  · exact h
  · split
    · exact h
    · split
      · exact h
      · exact am_ok_runs _ h (by omega)
end
section
/-! FIELD: each call over the picture -/
def xc_R (S : am_S) (σ : xk_St) : Prop := xc_W (aW S) σ ∧ σ.1 0 5 = nI (aPl S) ∧ σ.1 0 6 = (if aBg S = true then nI 1 else nI 0) ∧ (∀ i, i < aPl S → σ.1 16 i = aNm S i) ∧ xc_L (aCn S) (aL S) σ ∧ xc_pl 0 (aN S) (aP S) σ ∧ σ.1 13 3 = nI (aN S) ∧ ∀ p, p < 2 → ∀ u, u < aN S → σ.1 (17 + 8 * p + u) 0 = nI (aSd S u) ∧ σ.1 (17 + 8 * p + u) 1 = nI (aSt S u)
section XF
variable {G : xk_D} {σ : xk_St} {S : am_S}
theorem k_F_isTile {t : Int32} : xk_M (xc G) 0 y_F_isTile [.int t] σ (xk_pi (fun r τ => ((r = nI 1 ∧ am_has 64 t) ∨ (r = nI 0 ∧ ¬ am_has 64 t)) ∧ σ = τ)) := by
  refine xk_enter (by decide) (Nat.le_of_ble_eq_true rfl) (fun K hE hc => ?_)
  show xk_X K _ _ 0 [(0, _)] []
  refine x_iload_n hE d_F_isTile_0 0 rfl ?_
  refine x_if_lt hE d_F_isTile_1 (fun h => ?_) (fun h => ?_)
  · skip
    refine x_iconst (nI 0) hE d_F_isTile_14 (by decide) ?_
    exact x_zret hc d_F_isTile_15 (by first | exact Or.inl rfl | exact Or.inr rfl | assumption | omega) (⟨Or.inr ⟨rfl, fun z => z.1 h⟩, rfl⟩)
  · skip
    refine x_iload_n hE d_F_isTile_4 0 rfl ?_
    refine x_bipush (nI 64) hE d_F_isTile_5 (by decide) ?_
    refine x_icmp_ge hE d_F_isTile_7 (fun g => ?_) (fun g => ?_)
    · skip
      refine x_iconst (nI 0) hE d_F_isTile_14 (by decide) ?_
      exact x_zret hc d_F_isTile_15 (by first | exact Or.inl rfl | exact Or.inr rfl | assumption | omega) (⟨Or.inr ⟨rfl, fun z => z.2 g⟩, rfl⟩)
    · skip
      refine x_iconst (nI 1) hE d_F_isTile_10 (by decide) ?_
      refine x_goto hE d_F_isTile_11 ?_
      exact x_zret hc d_F_isTile_15 (by first | exact Or.inl rfl | exact Or.inr rfl | assumption | omega) (⟨Or.inl ⟨rfl, h, g⟩, rfl⟩)
theorem k_F_wall (hR : xc_R S σ) (hS : am_okS S) {t b : Int32} : xk_M (xc G) 3 y_F_wall [.ref (xk_wA (xc G) 0), .int t, .int b] σ (xk_pi (fun r τ => r = (am_wall S t b).1 ∧ xc_R (am_wall S t b).2 τ)) := by
  obtain ⟨r1, r2, r3, r4, r5, r6, r7, r8⟩ := hR
  have hp0 : 0 < 2 := by decide
  have no : ∀ K : xk_K, xk_E K c_F_wall 3 → xk_H K (xc G) c_F_wall 3 RF 3 (some .boolean) (xk_pi (fun r τ => r = (am_wall S t b).1 ∧ xc_R (am_wall S t b).2 τ)) → (aBg S = true ∨ ¬ am_has 64 t ∨ am_taken (aP S) t.toNatClampNeg (aN S) = true) → xk_X K (xk_vw (xc G)) σ 25 [(0, .ref (xk_wA (xc G) 0)), (1, .int t), (2, .int b)] [] := by
    intro K hE hc h
    refine x_iconst (nI 0) hE d_F_wall_25 (by decide) ?_
    have e : am_wall S t b = (nI 0, S) := by unfold am_wall; rw [if_pos h]
    exact x_zret hc d_F_wall_26 (by first | exact Or.inl rfl | exact Or.inr rfl | assumption | omega) (by rw [e]; exact ⟨rfl, r1, r2, r3, r4, r5, r6, r7, r8⟩)
  refine xk_enter (by decide) (Nat.le_of_ble_eq_true rfl) (fun K hE hc => ?_)
  show xk_X K _ _ 0 [(0, _), (1, _), (2, _)] []
  refine x_aload_n hE d_F_wall_0 0 rfl ?_
  refine gf_F_39 hc d_F_wall_1 r3 ?_
  cases hbg : aBg S with
  | true =>
    first | refine xn_if_ne hE d_F_wall_4 (fun z => ?_) (fun z => ?_) | refine x_if_ne hE d_F_wall_4 (fun z => ?_) (fun z => ?_)
    · exact no K hE hc (Or.inl hbg)
    · exact absurd z (by decide)
  | false =>
    first | refine xn_if_ne hE d_F_wall_4 (fun z => ?_) (fun z => ?_) | refine x_if_ne hE d_F_wall_4 (fun z => ?_) (fun z => ?_)
    · exact absurd rfl z
    · skip
      refine x_iload_n hE d_F_wall_7 1 rfl ?_
      refine ca_F_43 hc d_F_wall_8 (k_F_isTile) (fun r τ hq => ?_)
      obtain ⟨ht, rfl⟩ := hq
      rcases ht with ⟨rfl, ht⟩ | ⟨rfl, ht⟩
      · skip
        first | refine xn_if_eq hE d_F_wall_11 (fun z => ?_) (fun z => ?_) | refine x_if_eq hE d_F_wall_11 (fun z => ?_) (fun z => ?_)
        · exact absurd z (by decide)
        · skip
          obtain ⟨j, hj, rfl⟩ := am_has_of (by decide) ht
          have ej : (nI j).toNatClampNeg = j := nI_clamp (by omega)
          refine x_aload_n hE d_F_wall_14 0 rfl ?_
          refine gf_F_28 hc d_F_wall_15 ?_
          refine x_iload_n hE d_F_wall_18 1 rfl ?_
          refine ca_F_47 hc hp0 d_F_wall_19 (k_P_isTaken (p := 0) hp0 hS.1 r6 hS.2.2.2.2 hj) (fun r τ hq => ?_)
          obtain ⟨rfl, rfl⟩ := hq
          cases hta : am_taken (aP S) j (aN S) with
          | true =>
            first | refine xn_if_eq hE d_F_wall_22 (fun z => ?_) (fun z => ?_) | refine x_if_eq hE d_F_wall_22 (fun z => ?_) (fun z => ?_)
            · exact absurd z (by decide)
            · exact no K hE hc (Or.inr (Or.inr (by rw [ej]; exact hta)))
          | false =>
            first | refine xn_if_eq hE d_F_wall_22 (fun z => ?_) (fun z => ?_) | refine x_if_eq hE d_F_wall_22 (fun z => ?_) (fun z => ?_)
            · skip
              refine x_aload_n hE d_F_wall_27 0 rfl ?_
              refine gf_F_10 hc d_F_wall_28 ?_
              refine x_iload_n hE d_F_wall_31 1 rfl ?_
              refine x_iload_n hE d_F_wall_32 2 rfl ?_
              refine ca_F_50 hc d_F_wall_33 (k_G_build r1 hj) (fun τ hq => ?_)
              obtain ⟨w1, w2⟩ := hq
              refine x_iconst (nI 1) hE d_F_wall_36 (by decide) ?_
              have e : am_wall S (nI j) b = (nI 1, (am_set (aW S) j (decide (b ≠ 0)), S.2)) := by
                unfold am_wall
                rw [if_neg (by rw [ej, hta, hbg]; simp [ht]), ej]
              refine x_zret hc d_F_wall_37 (Or.inr rfl) ?_
              rw [e]
              refine ⟨rfl, w1, ?_⟩
              rw [w2]
              unfold xc_L xc_pl xc_at at *
              rw [w2]
              exact ⟨r2, r3, r4, r5, r6, r7, r8⟩
            · exact absurd rfl z
      · skip
        first | refine xn_if_eq hE d_F_wall_11 (fun z => ?_) (fun z => ?_) | refine x_if_eq hE d_F_wall_11 (fun z => ?_) (fun z => ?_)
        · exact no K hE hc (Or.inr (Or.inl ht))
        · exact absurd rfl z
theorem k_F_begin (hR : xc_R S σ) (hS : am_okS S) : xk_M (xc G) 0 y_F_begin [.ref (xk_wA (xc G) 0)] σ (xk_pi (fun r τ => r = (am_begin S).1 ∧ xc_R (am_begin S).2 τ)) := by
  have hR0 := hR
  obtain ⟨r1, r2, r3, r4, r5, r6, r7, r8⟩ := hR
  have hp0 : 0 < 2 := by decide
  refine xk_enter (by decide) (Nat.le_of_ble_eq_true rfl) (fun K hE hc => ?_)
  show xk_X K _ _ 0 [(0, _)] []
  refine x_aload_n hE d_F_begin_0 0 rfl ?_
  refine gf_F_39 hc d_F_begin_1 r3 ?_
  cases hbg : aBg S with
  | true =>
    first | refine xn_if_eq hE d_F_begin_4 (fun z => ?_) (fun z => ?_) | refine x_if_eq hE d_F_begin_4 (fun z => ?_) (fun z => ?_)
    · exact absurd z (by decide)
    · skip
      refine x_bipush (-3) hE d_F_begin_7 (by decide) ?_
      have e : am_begin S = (-3, S) := by unfold am_begin; rw [if_pos hbg]
      exact x_iret hc d_F_begin_9 (by rw [e]; exact ⟨rfl, hR0⟩)
  | false =>
    first | refine xn_if_eq hE d_F_begin_4 (fun z => ?_) (fun z => ?_) | refine x_if_eq hE d_F_begin_4 (fun z => ?_) (fun z => ?_)
    · skip
      refine x_aload_n hE d_F_begin_10 0 rfl ?_
      refine x_iconst (nI 1) hE d_F_begin_11 (by decide) ?_
      refine pf_F_39 hc d_F_begin_12 (by first | exact Or.inl rfl | exact Or.inr rfl | assumption) ?_
      refine x_aload_n hE d_F_begin_15 0 rfl ?_
      refine gf_F_28 hc d_F_begin_16 ?_
      refine gf_F_57 hc (p := 0) hp0 d_F_begin_19 (show _ = nI (aN S) by rw [xk_up_o (by decide)]; exact r6.1) ?_
      have e : am_begin S = (nI (aN S), (aW S, aN S, aSd S, aSt S, true, S.2.2.2.2.2)) := by unfold am_begin; rw [if_neg (by rw [hbg]; simp)]
      refine x_iret hc d_F_begin_22 ?_
      rw [e]
      refine ⟨rfl, r1, ?_, ?_, fun i hi => ?_, r5.mv (fun k h1 h2 => xk_up_o (by omega)), r6.mv hS.1 (fun k h => xk_up_o (by omega)), ?_, fun p hp u hu => ?_⟩
      · rw [xk_up_s, if_neg (by decide)]; exact r2
      · rw [xk_up_s, if_pos rfl]; rfl
      · rw [xk_up_o (by decide)]; exact r4 i hi
      · rw [xk_up_o (by decide)]; exact r7
      · rw [xk_up_o (by omega)]; exact r8 p hp u hu
    · exact absurd rfl z
end XF
end
section
/-! FIELD: placing, commands, reads -/
theorem xu_settle_o {σ : xk_St} {k i : Nat} {s t : Int32} (h : i ≠ k) : (xu_settle σ k s t).1 i = σ.1 i := by simp only [xu_settle]; rw [xu_restart_o h, xk_up_o h, xk_up_o h]
theorem xu_settle_at {σ : xk_St} {k jt : Nat} {s : Int32} : xc_at (xu_settle σ k s (nI jt)) k (20, jt, 0, 0, 0, []) ∧ (xu_settle σ k s (nI jt)).1 k 0 = s ∧ (xu_settle σ k s (nI jt)).1 k 1 = nI jt := by
  obtain ⟨e1, e2⟩ := xu_restart_at (σ := xk_up (xk_up σ k 0 s) k 1 (nI jt)) (k := k) (t := jt) (by rw [xk_up_s, if_pos rfl])
  refine ⟨e1, ?_, ?_⟩
  · show (xu_restart _ k).1 k 0 = s
    rw [e2.2.2.1, xk_up_s, xk_up_s]; rfl
  · show (xu_restart _ k).1 k 1 = nI jt
    rw [e2.2.2.2, xk_up_s]; rfl
section XF2
variable {G : xk_D} {σ : xk_St} {S : am_S}
theorem k_F_unit (hR : xc_R S σ) (hS : am_okS S) {s t : Int32} : xk_M (xc G) 5 y_F_unit [.ref (xk_wA (xc G) 0), .int s, .int t] σ (xk_pi (fun r τ => r = (am_unit S s t).1 ∧ xc_R (am_unit S s t).2 τ)) := by
  have hR0 := hR
  have hn8 := hS.1
  obtain ⟨r1, r2, r3, r4, r5, r6, r7, r8⟩ := hR
  have hp0 : 0 < 2 := by decide
  have hp1 : 1 < 2 := by decide
  have no : ∀ K : xk_K, xk_E K c_F_unit 3 → xk_H K (xc G) c_F_unit 3 RF 5 (some .int) (xk_pi (fun r τ => r = (am_unit S s t).1 ∧ xc_R (am_unit S s t).2 τ)) → aBg S = false → (¬ am_has 2 s ∨ ¬ am_has 64 t ∨ aW S t.toNatClampNeg = true ∨ am_taken (aP S) t.toNatClampNeg (aN S) = true) → xk_X K (xk_vw (xc G)) σ 48 [(0, .ref (xk_wA (xc G) 0)), (1, .int s), (2, .int t)] [] := by
    intro K hE hc hbg h
    refine x_iconst (-1) hE d_F_unit_48 (by decide) ?_
    have e : am_unit S s t = (-1, S) := by unfold am_unit; rw [if_neg (by rw [hbg]; simp), if_pos h]
    exact x_iret hc d_F_unit_49 (by rw [e]; exact ⟨rfl, hR0⟩)
  refine xk_enter (by decide) (Nat.le_of_ble_eq_true rfl) (fun K hE hc => ?_)
  show xk_X K _ _ 0 [(0, _), (1, _), (2, _)] []
  refine x_aload_n hE d_F_unit_0 0 rfl ?_
  refine gf_F_39 hc d_F_unit_1 r3 ?_
  cases hbg : aBg S with
  | true =>
    first | refine xn_if_eq hE d_F_unit_4 (fun z => ?_) (fun z => ?_) | refine x_if_eq hE d_F_unit_4 (fun z => ?_) (fun z => ?_)
    · exact absurd z (by decide)
    · skip
      refine x_bipush (-3) hE d_F_unit_7 (by decide) ?_
      have e : am_unit S s t = (-3, S) := by unfold am_unit; rw [if_pos hbg]
      exact x_iret hc d_F_unit_9 (by rw [e]; exact ⟨rfl, hR0⟩)
  | false =>
    first | refine xn_if_eq hE d_F_unit_4 (fun z => ?_) (fun z => ?_) | refine x_if_eq hE d_F_unit_4 (fun z => ?_) (fun z => ?_)
    · skip
      refine x_iload_n hE d_F_unit_10 1 rfl ?_
      refine x_if_lt hE d_F_unit_11 (fun h1 => ?_) (fun h1 => ?_)
      · exact no K hE hc hbg (Or.inl (fun q => q.1 h1))
      · skip
        refine x_iload_n hE d_F_unit_14 1 rfl ?_
        refine x_iconst (nI 2) hE d_F_unit_15 (by decide) ?_
        refine x_icmp_ge hE d_F_unit_16 (fun h2 => ?_) (fun h2 => ?_)
        · exact no K hE hc hbg (Or.inl (fun q => q.2 h2))
        · skip
          have hs : am_has 2 s := ⟨h1, h2⟩
          refine x_iload_n hE d_F_unit_19 2 rfl ?_
          refine ca_F_43 hc d_F_unit_20 (k_F_isTile) (fun r τ hq => ?_)
          obtain ⟨ht, rfl⟩ := hq
          rcases ht with ⟨rfl, ht⟩ | ⟨rfl, ht⟩
          · skip
            first | refine xn_if_eq hE d_F_unit_23 (fun z => ?_) (fun z => ?_) | refine x_if_eq hE d_F_unit_23 (fun z => ?_) (fun z => ?_)
            · exact absurd z (by decide)
            · skip
              obtain ⟨js, hjs, rfl⟩ := am_has_of (by decide) hs
              obtain ⟨j, hj, rfl⟩ := am_has_of (by decide) ht
              have ej : (nI j).toNatClampNeg = j := nI_clamp (by omega)
              have ejs : (nI js).toNatClampNeg = js := nI_clamp (by omega)
              refine x_aload_n hE d_F_unit_26 0 rfl ?_
              refine gf_F_10 hc d_F_unit_27 ?_
              refine x_iload_n hE d_F_unit_30 2 rfl ?_
              refine ca_F_54 hc d_F_unit_31 (k_G_isWall r1 hj) (fun r τ hq => ?_)
              obtain ⟨rfl, rfl⟩ := hq
              cases hw : aW S j with
              | true =>
                first | refine xn_if_ne hE d_F_unit_34 (fun z => ?_) (fun z => ?_) | refine x_if_ne hE d_F_unit_34 (fun z => ?_) (fun z => ?_)
                · exact no K hE hc hbg (Or.inr (Or.inr (Or.inl (by rw [ej]; exact hw))))
                · exact absurd z (by decide)
              | false =>
                first | refine xn_if_ne hE d_F_unit_34 (fun z => ?_) (fun z => ?_) | refine x_if_ne hE d_F_unit_34 (fun z => ?_) (fun z => ?_)
                · exact absurd rfl z
                · skip
                  refine x_aload_n hE d_F_unit_37 0 rfl ?_
                  refine gf_F_28 hc d_F_unit_38 ?_
                  refine x_iload_n hE d_F_unit_41 2 rfl ?_
                  refine ca_F_47 hc hp0 d_F_unit_42 (k_P_isTaken (p := 0) hp0 hS.1 r6 hS.2.2.2.2 hj) (fun r τ hq => ?_)
                  obtain ⟨rfl, rfl⟩ := hq
                  cases hta : am_taken (aP S) j (aN S) with
                  | true =>
                    first | refine xn_if_eq hE d_F_unit_45 (fun z => ?_) (fun z => ?_) | refine x_if_eq hE d_F_unit_45 (fun z => ?_) (fun z => ?_)
                    · exact absurd z (by decide)
                    · exact no K hE hc hbg (Or.inr (Or.inr (Or.inr (by rw [ej]; exact hta))))
                  | false =>
                    first | refine xn_if_eq hE d_F_unit_45 (fun z => ?_) (fun z => ?_) | refine x_if_eq hE d_F_unit_45 (fun z => ?_) (fun z => ?_)
                    · skip
                      have hneg : ¬ (¬ am_has 2 (nI js) ∨ ¬ am_has 64 (nI j) ∨ aW S (nI j).toNatClampNeg = true ∨ am_taken (aP S) (nI j).toNatClampNeg (aN S) = true) := by
                        rw [ej, hw, hta]
                        intro q
                        rcases q with q | q | q | q
                        · exact q hs
                        · exact q ht
                        · cases q
                        · cases q
                      refine x_aload_n hE d_F_unit_50 0 rfl ?_
                      refine gf_F_28 hc d_F_unit_51 ?_
                      refine gf_F_57 hc (p := 0) hp0 d_F_unit_54 r6.1 ?_
                      refine x_bipush (nI 8) hE d_F_unit_57 (by decide) ?_
                      first | refine xn_icmp_ne hE d_F_unit_59 (fun h8 => ?_) (fun h8 => ?_) | refine x_icmp_ne hE d_F_unit_59 (fun h8 => ?_) (fun h8 => ?_)
                      · skip
                        have hn7 : aN S < 8 := by omega
                        refine x_aload_n hE d_F_unit_65 0 rfl ?_
                        refine gf_F_32 hc d_F_unit_66 ?_
                        refine x_iload_n hE d_F_unit_69 1 rfl ?_
                        refine x_iload_n hE d_F_unit_70 2 rfl ?_
                        refine ca_F_61 hc hp1 d_F_unit_71 (k_P_place (p := 1) hp1 hn7 r7) (fun r τ hq => ?_)
                        obtain ⟨rfl, rfl⟩ := hq
                        refine x_pop hE d_F_unit_74 rfl ?_
                        refine x_aload_n hE d_F_unit_75 0 rfl ?_
                        refine gf_F_28 hc d_F_unit_76 ?_
                        refine x_iload_n hE d_F_unit_79 1 rfl ?_
                        refine x_iload_n hE d_F_unit_80 2 rfl ?_
                        have c1 : (xk_up (xu_settle σ (17 + 8 * 1 + aN S) (nI js) (nI j)) (10 + 3 * 1) 3 (nI (aN S + 1))).1 (10 + 3 * 0) 3 = nI (aN S) := by
                          rw [xk_up_o (by omega), xu_settle_o (by omega)]
                          exact r6.1
                        refine ca_F_61 hc hp0 d_F_unit_81 (k_P_place (p := 0) hp0 hn7 c1) (fun r τ hq => ?_)
                        obtain ⟨rfl, rfl⟩ := hq
                        have e : am_unit S (nI js) (nI j) = (nI (aN S), (aW S, aN S + 1, am_set (aSd S) (aN S) js, am_set (aSt S) (aN S) j, aBg S, aPl S, aNm S, aCn S, aL S, am_set (aP S) (aN S) (20, j, 0, 0, 0, []))) := by
                          unfold am_unit
                          rw [if_neg (by rw [hbg]; simp), if_neg hneg, if_neg h8, ej, ejs]
                        refine x_iret hc d_F_unit_84 ?_
                        rw [e]
                        obtain ⟨a1, a2, a3⟩ := xu_settle_at (σ := σ) (k := 17 + 8 * 1 + aN S) (jt := j) (s := nI js)
                        obtain ⟨b1, b2, b3⟩ := xu_settle_at (σ := xk_up (xu_settle σ (17 + 8 * 1 + aN S) (nI js) (nI j)) (10 + 3 * 1) 3 (nI (aN S + 1))) (k := 17 + 8 * 0 + aN S) (jt := j) (s := nI js)
                        have ho : ∀ i, i ≠ 10 → i ≠ 13 → i ≠ 17 + aN S → i ≠ 25 + aN S → (xk_up (xu_settle (xk_up (xu_settle σ (17 + 8 * 1 + aN S) (nI js) (nI j)) (10 + 3 * 1) 3 (nI (aN S + 1))) (17 + 8 * 0 + aN S) (nI js) (nI j)) (10 + 3 * 0) 3 (nI (aN S + 1))).1 i = σ.1 i := by
                          intro i i1 i2 i3 i4
                          rw [xk_up_o (by omega), xu_settle_o (by omega), xk_up_o (by omega), xu_settle_o (by omega)]
                        refine ⟨rfl, r1, ?_, ?_, fun i hi => ?_, r5.mv (fun k h1 h2 => ho k (by omega) (by omega) (by omega) (by omega)), ⟨?_, fun u hu => ?_⟩, ?_, fun p hp u hu => ?_⟩
                        · rw [ho 0 (by omega) (by omega) (by omega) (by omega)]; exact r2
                        · rw [ho 0 (by omega) (by omega) (by omega) (by omega)]; exact r3
                        · rw [ho 16 (by omega) (by omega) (by omega) (by omega)]; exact r4 i hi
                        · rw [xk_up_s, if_pos rfl]
                        · have hu : u < aN S + 1 := hu
                          by_cases e1 : u = aN S
                          · subst e1
                            show xc_at _ _ (am_set (aP S) (aN S) (20, j, 0, 0, 0, []) (aN S))
                            rw [am_set_s]
                            unfold xc_at at b1 ⊢
                            rw [xk_up_o (by omega), xk_up_o (by omega)]
                            exact b1
                          · show xc_at _ _ (am_set (aP S) (aN S) (20, j, 0, 0, 0, []) u)
                            rw [am_set_n e1]
                            have h5 := r6.2 u (by omega)
                            unfold xc_at at h5 ⊢
                            rw [ho _ (by omega) (by omega) (by omega) (by omega), ho _ (by omega) (by omega) (by omega) (by omega)]
                            exact h5
                        · rw [xk_up_o (by omega), xu_settle_o (by omega), xk_up_s, if_pos rfl]
                        · have hu : u < aN S + 1 := hu
                          show _ = nI (am_set (aSd S) (aN S) js u) ∧ _ = nI (am_set (aSt S) (aN S) j u)
                          by_cases e1 : u = aN S
                          · subst e1
                            rw [am_set_s, am_set_s]
                            have hpc : p = 0 ∨ p = 1 := by omega
                            rcases hpc with rfl | rfl
                            · rw [xk_up_o (by omega)]
                              exact ⟨b2, b3⟩
                            · rw [xk_up_o (by omega), xu_settle_o (by omega), xk_up_o (by omega)]
                              exact ⟨a2, a3⟩
                          · rw [am_set_n e1, am_set_n e1, ho _ (by omega) (by omega) (by omega) (by omega)]
                            exact r8 p hp u (by omega)
                      · skip
                        refine x_bipush (-2) hE d_F_unit_62 (by decide) ?_
                        have e : am_unit S (nI js) (nI j) = (-2, S) := by
                          unfold am_unit
                          rw [if_neg (by rw [hbg]; simp), if_neg hneg, if_pos h8]
                        exact x_iret hc d_F_unit_64 (by rw [e]; exact ⟨rfl, hR0⟩)
                    · exact absurd rfl z
          · skip
            first | refine xn_if_eq hE d_F_unit_23 (fun z => ?_) (fun z => ?_) | refine x_if_eq hE d_F_unit_23 (fun z => ?_) (fun z => ?_)
            · exact no K hE hc hbg (Or.inr (Or.inl ht))
            · exact absurd rfl z
    · exact absurd rfl z
theorem k_F_isKindWithNumber (hR : xc_R S σ) {u k m : Int32} : xk_M (xc G) 1 y_F_isKindWithNumber [.ref (xk_wA (xc G) 0), .int u, .int k, .int m] σ (xk_pi (fun r τ => ((r = nI 1 ∧ am_kind (aN S) u k m) ∨ (r = nI 0 ∧ ¬ am_kind (aN S) u k m)) ∧ σ = τ)) := by
  obtain ⟨r1, r2, r3, r4, r5, r6, r7, r8⟩ := hR
  have hp0 : 0 < 2 := by decide
  have n01 : ¬ nI 1 = nI 0 := by decide
  have n02 : ¬ nI 2 = nI 0 := by decide
  have n12 : ¬ nI 2 = nI 1 := by decide
  have n21 : ¬ nI 1 = nI 2 := by decide
  refine xk_enter (by decide) (Nat.le_of_ble_eq_true rfl) (fun K hE hc => ?_)
  show xk_X K _ _ 0 [(0, _), (1, _), (2, _), (3, _)] []
  refine x_iload_n hE d_F_isKindWithNumber_0 2 rfl ?_
  by_cases k0 : k = nI 0
  · subst k0
    refine x_tabIn hE d_F_isKindWithNumber_1 (x := nI 0) (off := 27) (tgt := 28) (by decide) (by decide) (by decide) (by decide) ?_
    refine x_iconst (nI 1) hE d_F_isKindWithNumber_28 (by decide) ?_
    exact x_zret hc d_F_isKindWithNumber_29 (by first | exact Or.inl rfl | exact Or.inr rfl | assumption | omega) (⟨Or.inl ⟨rfl, Or.inl rfl⟩, rfl⟩)
  · by_cases k1 : k = nI 1
    · subst k1
      refine x_tabIn hE d_F_isKindWithNumber_1 (x := nI 1) (off := 29) (tgt := 30) (by decide) (by decide) (by decide) (by decide) ?_
      refine x_iload_n hE d_F_isKindWithNumber_30 3 rfl ?_
      refine ca_F_43 hc d_F_isKindWithNumber_31 (k_F_isTile) (fun r τ hq => ?_)
      obtain ⟨ht, rfl⟩ := hq
      rcases ht with ⟨rfl, ht⟩ | ⟨rfl, ht⟩
      · skip
        exact x_zret hc d_F_isKindWithNumber_34 (by first | exact Or.inl rfl | exact Or.inr rfl | assumption | omega) (⟨Or.inl ⟨rfl, Or.inr (Or.inl ⟨rfl, ht⟩)⟩, rfl⟩)
      · skip
        refine x_zret hc d_F_isKindWithNumber_34 (Or.inl rfl) ⟨Or.inr ⟨rfl, fun q => ?_⟩, rfl⟩
        rcases q with q | q | q
        · exact n01 q
        · exact ht q.2
        · exact n21 q.1
    · by_cases k2 : k = nI 2
      · subst k2
        refine x_tabIn hE d_F_isKindWithNumber_1 (x := nI 2) (off := 34) (tgt := 35) (by decide) (by decide) (by decide) (by decide) ?_
        have hno : ¬ (am_has (aN S) m ∧ ¬ m = u) → ¬ am_kind (aN S) u (nI 2) m := fun z q => by
          rcases q with q | q | q
          · exact n02 q
          · exact n12 q.1
          · exact z q.2
        refine x_aload_n hE d_F_isKindWithNumber_35 0 rfl ?_
        refine gf_F_28 hc d_F_isKindWithNumber_36 ?_
        refine x_iload_n hE d_F_isKindWithNumber_39 3 rfl ?_
        refine ca_F_65 hc hp0 d_F_isKindWithNumber_40 (k_P_has (p := 0) hp0 r6.1) (fun r τ hq => ?_)
        obtain ⟨ht, rfl⟩ := hq
        rcases ht with ⟨rfl, ht⟩ | ⟨rfl, ht⟩
        · skip
          first | refine xn_if_eq hE d_F_isKindWithNumber_43 (fun z => ?_) (fun z => ?_) | refine x_if_eq hE d_F_isKindWithNumber_43 (fun z => ?_) (fun z => ?_)
          · exact absurd z (by decide)
          · skip
            refine x_iload_n hE d_F_isKindWithNumber_46 3 rfl ?_
            refine x_iload_n hE d_F_isKindWithNumber_47 1 rfl ?_
            refine x_icmp_eq hE d_F_isKindWithNumber_48 (fun g => ?_) (fun g => ?_)
            · skip
              refine x_iconst (nI 0) hE d_F_isKindWithNumber_55 (by decide) ?_
              exact x_zret hc d_F_isKindWithNumber_56 (by first | exact Or.inl rfl | exact Or.inr rfl | assumption | omega) (⟨Or.inr ⟨rfl, hno (fun q => q.2 g)⟩, rfl⟩)
            · skip
              refine x_iconst (nI 1) hE d_F_isKindWithNumber_51 (by decide) ?_
              refine x_goto hE d_F_isKindWithNumber_52 ?_
              exact x_zret hc d_F_isKindWithNumber_56 (by first | exact Or.inl rfl | exact Or.inr rfl | assumption | omega) (⟨Or.inl ⟨rfl, Or.inr (Or.inr ⟨rfl, ht, g⟩)⟩, rfl⟩)
        · skip
          first | refine xn_if_eq hE d_F_isKindWithNumber_43 (fun z => ?_) (fun z => ?_) | refine x_if_eq hE d_F_isKindWithNumber_43 (fun z => ?_) (fun z => ?_)
          · skip
            refine x_iconst (nI 0) hE d_F_isKindWithNumber_55 (by decide) ?_
            exact x_zret hc d_F_isKindWithNumber_56 (by first | exact Or.inl rfl | exact Or.inr rfl | assumption | omega) (⟨Or.inr ⟨rfl, hno (fun q => ht q.1)⟩, rfl⟩)
          · exact absurd rfl z
      · have d0 : ¬ k.toInt = 0 := lv_neT k0 (by decide)
        have d1 : ¬ k.toInt = 1 := lv_neT k1 (by decide)
        have d2 : ¬ k.toInt = 2 := lv_neT k2 (by decide)
        refine x_tabOut hE d_F_isKindWithNumber_1 (x := k) (tgt := 57) (by omega) (by decide) ?_
        refine x_iconst (nI 0) hE d_F_isKindWithNumber_57 (by decide) ?_
        refine x_zret hc d_F_isKindWithNumber_58 (Or.inl rfl) ⟨Or.inr ⟨rfl, fun q => ?_⟩, rfl⟩
        rcases q with q | q | q
        · exact k0 q
        · exact k1 q.1
        · exact k2 q.1
theorem k_F_command (hR : xc_R S σ) (hS : am_okS S) {t u k m : Int32} : xk_M (xc G) 2 y_F_command [.ref (xk_wA (xc G) 0), .int t, .int u, .int k, .int m] σ (xk_pi (fun r τ => r = (am_command S t u k m).1 ∧ xc_R (am_command S t u k m).2 τ)) := by
  have hR0 := hR
  have hn8 := hS.1
  have hc24 := hS.2.2.2.1.1
  obtain ⟨r1, r2, r3, r4, r5, r6, r7, r8⟩ := hR
  have hp0 : 0 < 2 := by decide
  have no : ∀ K : xk_K, xk_E K c_F_command 5 → xk_H K (xc G) c_F_command 5 RF 2 (some .int) (xk_pi (fun r τ => r = (am_command S t u k m).1 ∧ xc_R (am_command S t u k m).2 τ)) → ¬ (am_has (aN S) u ∧ am_kind (aN S) u k m) → xk_X K (xk_vw (xc G)) σ 22 [(0, .ref (xk_wA (xc G) 0)), (1, .int t), (2, .int u), (3, .int k), (4, .int m)] [] := by
    intro K hE hc h
    refine x_iconst (-1) hE d_F_command_22 (by decide) ?_
    have e : am_command S t u k m = (-1, S) := by unfold am_command; rw [if_pos h]
    exact x_iret hc d_F_command_23 (by rw [e]; exact ⟨rfl, hR0⟩)
  have early : ∀ K : xk_K, xk_E K c_F_command 5 → xk_H K (xc G) c_F_command 5 RF 2 (some .int) (xk_pi (fun r τ => r = (am_command S t u k m).1 ∧ xc_R (am_command S t u k m).2 τ)) → (am_has (aN S) u ∧ am_kind (aN S) u k m) → (aBg S = false ∨ t < nI (aPl S)) → xk_X K (xk_vw (xc G)) σ 39 [(0, .ref (xk_wA (xc G) 0)), (1, .int t), (2, .int u), (3, .int k), (4, .int m)] [] := by
    intro K hE hc h h2
    refine x_bipush (-3) hE d_F_command_39 (by decide) ?_
    have e : am_command S t u k m = (-3, S) := by unfold am_command; rw [if_neg (Classical.not_not.mpr h), if_pos h2]
    exact x_iret hc d_F_command_41 (by rw [e]; exact ⟨rfl, hR0⟩)
  refine xk_enter (by decide) (Nat.le_of_ble_eq_true rfl) (fun K hE hc => ?_)
  show xk_X K _ _ 0 [(0, _), (1, _), (2, _), (3, _), (4, _)] []
  refine x_aload_n hE d_F_command_0 0 rfl ?_
  refine gf_F_28 hc d_F_command_1 ?_
  refine x_iload_n hE d_F_command_4 2 rfl ?_
  refine ca_F_65 hc hp0 d_F_command_5 (k_P_has (p := 0) hp0 r6.1) (fun r τ hq => ?_)
  obtain ⟨ht, rfl⟩ := hq
  rcases ht with ⟨rfl, ht⟩ | ⟨rfl, ht⟩
  · skip
    first | refine xn_if_eq hE d_F_command_8 (fun z => ?_) (fun z => ?_) | refine x_if_eq hE d_F_command_8 (fun z => ?_) (fun z => ?_)
    · exact absurd z (by decide)
    · skip
      refine x_aload_n hE d_F_command_11 0 rfl ?_
      refine x_iload_n hE d_F_command_12 2 rfl ?_
      refine x_iload_n hE d_F_command_13 3 rfl ?_
      refine x_iload hE d_F_command_14 4 rfl ?_
      refine ca_F_68 hc d_F_command_16 (k_F_isKindWithNumber hR0) (fun r τ hq => ?_)
      obtain ⟨hk, rfl⟩ := hq
      rcases hk with ⟨rfl, hk⟩ | ⟨rfl, hk⟩
      · skip
        first | refine xn_if_ne hE d_F_command_19 (fun z => ?_) (fun z => ?_) | refine x_if_ne hE d_F_command_19 (fun z => ?_) (fun z => ?_)
        · skip
          refine x_aload_n hE d_F_command_24 0 rfl ?_
          refine gf_F_39 hc d_F_command_25 r3 ?_
          cases hbg : aBg S with
          | false =>
            first | refine xn_if_eq hE d_F_command_28 (fun z => ?_) (fun z => ?_) | refine x_if_eq hE d_F_command_28 (fun z => ?_) (fun z => ?_)
            · exact early K hE hc ⟨ht, hk⟩ (Or.inl hbg)
            · exact absurd rfl z
          | true =>
            first | refine xn_if_eq hE d_F_command_28 (fun z => ?_) (fun z => ?_) | refine x_if_eq hE d_F_command_28 (fun z => ?_) (fun z => ?_)
            · exact absurd z (by decide)
            · skip
              refine x_iload_n hE d_F_command_31 1 rfl ?_
              refine x_aload_n hE d_F_command_32 0 rfl ?_
              refine gf_F_72 hc d_F_command_33 r2 ?_
              refine x_icmp_ge hE d_F_command_36 (fun g => ?_) (fun g => ?_)
              · skip
                have g1 : ¬ t < nI (aPl S) := by rw [Int32.not_lt]; exact g
                refine x_aload_n hE d_F_command_42 0 rfl ?_
                refine gf_F_19 hc d_F_command_43 ?_
                refine gf_F_75 hc d_F_command_46 r5.1 ?_
                refine x_bipush (nI 24) hE d_F_command_49 (by decide) ?_
                have hneg : ¬ (aBg S = false ∨ t < nI (aPl S)) := fun q => by
                  rcases q with q | q
                  · rw [hbg] at q; cases q
                  · exact g1 q
                first | refine xn_icmp_ne hE d_F_command_51 (fun h4 => ?_) (fun h4 => ?_) | refine x_icmp_ne hE d_F_command_51 (fun h4 => ?_) (fun h4 => ?_)
                · skip
                  obtain ⟨ju, hju, rfl⟩ := am_has_of (by omega) ht
                  obtain ⟨kd, mm, k1, rfl, k3, k4, k5⟩ := am_kind_of hn8 hk
                  refine x_aload_n hE d_F_command_57 0 rfl ?_
                  refine gf_F_19 hc d_F_command_58 ?_
                  refine x_iload_n hE d_F_command_61 1 rfl ?_
                  refine x_iload_n hE d_F_command_62 2 rfl ?_
                  refine x_iload_n hE d_F_command_63 3 rfl ?_
                  refine x_iload hE d_F_command_64 4 rfl ?_
                  refine ca_F_76 hc d_F_command_66 (k_L_add r5 (show aCn S < 24 by omega) k1 k3) (fun r τ hq => ?_)
                  obtain ⟨rfl, l1, l2⟩ := hq
                  have hm : (if kd = 0 then 0 else mm) = (if kd = 0 then 0 else m.toNatClampNeg) := by
                    by_cases e2 : kd = 0
                    · rw [if_pos e2, if_pos e2]
                    · rw [if_neg e2, if_neg e2, k3 e2, nI_clamp (by omega)]
                  have e : am_command S t (nI ju) (nI kd) m = (nI (aCn S), (aW S, aN S, aSd S, aSt S, aBg S, aPl S, aNm S, aCn S + 1, am_set (aL S) (aCn S) (t, ju, kd, if kd = 0 then 0 else mm), aP S)) := by
                    unfold am_command
                    rw [if_neg (Classical.not_not.mpr ⟨ht, hk⟩), if_neg hneg, if_neg h4, nI_clamp (by omega), nI_clamp (by omega), hm]
                  refine x_iret hc d_F_command_69 ?_
                  rw [e]
                  refine ⟨rfl, r1.mv l2.1, ?_, ?_, fun i hi => ?_, l1, r6.mv hn8 (fun k h => l2.2 k (by omega)), ?_, fun p hp u hu => ?_⟩
                  · rw [l2.2 0 (by omega)]; exact r2
                  · rw [l2.2 0 (by omega)]; exact r3
                  · rw [l2.2 16 (by omega)]; exact r4 i hi
                  · rw [l2.2 13 (by omega)]; exact r7
                  · rw [l2.2 _ (by omega)]; exact r8 p hp u hu
                · skip
                  refine x_bipush (-2) hE d_F_command_54 (by decide) ?_
                  have e : am_command S t u k m = (-2, S) := by unfold am_command; rw [if_neg (Classical.not_not.mpr ⟨ht, hk⟩), if_neg hneg, if_pos h4]
                  exact x_iret hc d_F_command_56 (by rw [e]; exact ⟨rfl, hR0⟩)
              · exact early K hE hc ⟨ht, hk⟩ (Or.inr (by rw [← Int32.not_le]; exact g))
        · exact absurd z (by decide)
      · skip
        first | refine xn_if_ne hE d_F_command_19 (fun z => ?_) (fun z => ?_) | refine x_if_ne hE d_F_command_19 (fun z => ?_) (fun z => ?_)
        · exact absurd rfl z
        · exact no K hE hc (fun q => hk q.2)
  · skip
    first | refine xn_if_eq hE d_F_command_8 (fun z => ?_) (fun z => ?_) | refine x_if_eq hE d_F_command_8 (fun z => ?_) (fun z => ?_)
    · exact no K hE hc (fun q => ht q.1)
    · exact absurd rfl z
theorem k_F_forget (hR : xc_R S σ) (hS : am_okS S) {k : Int32} : xk_M (xc G) 3 y_F_forget [.ref (xk_wA (xc G) 0), .int k] σ (xk_pi (fun r τ => r = (am_forget S k).1 ∧ xc_R (am_forget S k).2 τ)) := by
  have hR0 := hR
  have hn8 := hS.1
  have hc24 := hS.2.2.2.1.1
  obtain ⟨r1, r2, r3, r4, r5, r6, r7, r8⟩ := hR
  have no : ∀ K : xk_K, xk_E K c_F_forget 2 → xk_H K (xc G) c_F_forget 2 RF 3 (some .boolean) (xk_pi (fun r τ => r = (am_forget S k).1 ∧ xc_R (am_forget S k).2 τ)) → ¬ am_has (aCn S) k → xk_X K (xk_vw (xc G)) σ 15 [(0, .ref (xk_wA (xc G) 0)), (1, .int k)] [] := by
    intro K hE hc h
    refine x_iconst (nI 0) hE d_F_forget_15 (by decide) ?_
    have e : am_forget S k = (nI 0, S) := by unfold am_forget; rw [if_pos h]
    exact x_zret hc d_F_forget_16 (by first | exact Or.inl rfl | exact Or.inr rfl | assumption | omega) (by rw [e]; exact ⟨rfl, hR0⟩)
  refine xk_enter (by decide) (Nat.le_of_ble_eq_true rfl) (fun K hE hc => ?_)
  show xk_X K _ _ 0 [(0, _), (1, _)] []
  refine x_iload_n hE d_F_forget_0 1 rfl ?_
  refine x_if_lt hE d_F_forget_1 (fun h1 => ?_) (fun h1 => ?_)
  · exact no K hE hc (fun q => q.1 h1)
  · skip
    refine x_iload_n hE d_F_forget_4 1 rfl ?_
    refine x_aload_n hE d_F_forget_5 0 rfl ?_
    refine gf_F_19 hc d_F_forget_6 ?_
    refine gf_F_75 hc d_F_forget_9 r5.1 ?_
    refine x_icmp_lt hE d_F_forget_12 (fun h2 => ?_) (fun h2 => ?_)
    · skip
      have hk : am_has (aCn S) k := ⟨h1, by rw [Int32.not_le]; exact h2⟩
      obtain ⟨j, hj, rfl⟩ := am_has_of (by omega) hk
      refine x_aload_n hE d_F_forget_17 0 rfl ?_
      refine gf_F_19 hc d_F_forget_18 ?_
      refine x_iload_n hE d_F_forget_21 1 rfl ?_
      refine ca_F_80 hc d_F_forget_22 (k_L_remove r5 hc24 hj) (fun τ hq => ?_)
      obtain ⟨l1, l2⟩ := hq
      refine x_iconst (nI 1) hE d_F_forget_25 (by decide) ?_
      have e : am_forget S (nI j) = (nI 1, (aW S, aN S, aSd S, aSt S, aBg S, aPl S, aNm S, aCn S - 1, am_del (aL S) j, aP S)) := by
        unfold am_forget
        rw [if_neg (Classical.not_not.mpr hk), nI_clamp (by omega)]
      refine x_zret hc d_F_forget_26 (Or.inr rfl) ?_
      rw [e]
      refine ⟨rfl, r1.mv l2.1, ?_, ?_, fun i hi => ?_, l1, r6.mv hn8 (fun k h => l2.2 k (by omega)), ?_, fun p hp u hu => ?_⟩
      · rw [l2.2 0 (by omega)]; exact r2
      · rw [l2.2 0 (by omega)]; exact r3
      · rw [l2.2 16 (by omega)]; exact r4 i hi
      · rw [l2.2 13 (by omega)]; exact r7
      · rw [l2.2 _ (by omega)]; exact r8 p hp u hu
    · exact no K hE hc (fun q => q.2 (by rw [← Int32.not_lt]; exact h2))
end XF2
end
section
/-! FIELD: running, replaying, reads -/
section XF3
variable {G : xk_D} {σ : xk_St} {S : am_S}
theorem k_F_entries (hR : xc_R S σ) : xk_M (xc G) 0 y_F_entries [.ref (xk_wA (xc G) 0)] σ (xk_pi (fun r τ => r = nI (aCn S) ∧ xc_R S τ)) := by
  refine xk_enter (by decide) (Nat.le_of_ble_eq_true rfl) (fun K hE hc => ?_)
  show xk_X K _ _ 0 [(0, _)] []
  refine x_aload_n hE d_F_entries_0 0 rfl ?_
  refine gf_F_19 hc d_F_entries_1 ?_
  refine gf_F_75 hc d_F_entries_4 hR.2.2.2.2.1.1 ?_
  exact x_iret hc d_F_entries_7 (⟨rfl, hR⟩)
theorem k_F_number (hR : xc_R S σ) (hS : am_okS S) {t : Int32} : xk_M (xc G) 0 y_F_number [.ref (xk_wA (xc G) 0), .int t] σ (xk_pi (fun r τ => r = am_number S t ∧ xc_R S τ)) := by
  have h200 := hS.2.2.1
  refine xk_enter (by decide) (Nat.le_of_ble_eq_true rfl) (fun K hE hc => ?_)
  show xk_X K _ _ 0 [(0, _), (1, _)] []
  refine x_iload_n hE d_F_number_0 1 rfl ?_
  refine x_if_lt hE d_F_number_1 (fun h1 => ?_) (fun h1 => ?_)
  · skip
    refine x_iconst (nI 0) hE d_F_number_21 (by decide) ?_
    exact x_iret hc d_F_number_22 (⟨by unfold am_number; rw [if_neg (fun q => q.1 h1)], hR⟩)
  · skip
    refine x_iload_n hE d_F_number_4 1 rfl ?_
    refine x_aload_n hE d_F_number_5 0 rfl ?_
    refine gf_F_72 hc d_F_number_6 hR.2.1 ?_
    refine x_icmp_ge hE d_F_number_9 (fun h2 => ?_) (fun h2 => ?_)
    · skip
      refine x_iconst (nI 0) hE d_F_number_21 (by decide) ?_
      exact x_iret hc d_F_number_22 (⟨by unfold am_number; rw [if_neg (fun q => q.2 h2)], hR⟩)
    · skip
      have ht : am_has (aPl S) t := ⟨h1, h2⟩
      obtain ⟨j, hj, rfl⟩ := am_has_of (by omega) ht
      refine x_aload_n hE d_F_number_12 0 rfl ?_
      refine gf_F_35 hc d_F_number_13 ?_
      refine x_iload_n hE d_F_number_16 1 rfl ?_
      refine x_iald hc rfl rfl (by omega) (by decide) d_F_number_17 (hR.2.2.2.1 j hj) ?_
      refine x_goto hE d_F_number_18 ?_
      exact x_iret hc d_F_number_22 (⟨by unfold am_number; rw [if_pos ht, nI_clamp (by omega)], hR⟩)
theorem k_F_points (hR : xc_R S σ) (hS : am_okS S) {u : Int32} : xk_M (xc G) 1 y_F_points [.ref (xk_wA (xc G) 0), .int u] σ (xk_pi (fun r τ => r = am_points S u ∧ xc_R S τ)) := by
  have hn8 := hS.1
  have r6 := hR.2.2.2.2.2.1
  have hp0 : 0 < 2 := by decide
  refine xk_enter (by decide) (Nat.le_of_ble_eq_true rfl) (fun K hE hc => ?_)
  show xk_X K _ _ 0 [(0, _), (1, _)] []
  refine x_aload_n hE d_F_points_0 0 rfl ?_
  refine gf_F_28 hc d_F_points_1 ?_
  refine x_iload_n hE d_F_points_4 1 rfl ?_
  refine ca_F_65 hc hp0 d_F_points_5 (k_P_has (p := 0) hp0 r6.1) (fun r τ hq => ?_)
  obtain ⟨ht, rfl⟩ := hq
  rcases ht with ⟨rfl, ht⟩ | ⟨rfl, ht⟩
  · skip
    first | refine xn_if_eq hE d_F_points_8 (fun z => ?_) (fun z => ?_) | refine x_if_eq hE d_F_points_8 (fun z => ?_) (fun z => ?_)
    · exact absurd z (by decide)
    · skip
      obtain ⟨j, hj, rfl⟩ := am_has_of (by omega) ht
      refine x_aload_n hE d_F_points_11 0 rfl ?_
      refine gf_F_28 hc d_F_points_12 ?_
      refine gf_F_91 hc (p := 0) hp0 d_F_points_15 ?_
      refine x_iload_n hE d_F_points_18 1 rfl ?_
      refine x_aald (b := 17 + 8 * 0) hc (xc_shV (p := 0) hp0) rfl (by omega) (by decide) d_F_points_19 ?_
      refine gf_F_104 hc (by omega) d_F_points_20 (r6.2 j hj).1 ?_
      refine x_goto hE d_F_points_23 ?_
      exact x_iret hc d_F_points_27 (⟨by unfold am_points; rw [if_pos ht, nI_clamp (by omega)], hR⟩)
  · skip
    first | refine xn_if_eq hE d_F_points_8 (fun z => ?_) (fun z => ?_) | refine x_if_eq hE d_F_points_8 (fun z => ?_) (fun z => ?_)
    · skip
      refine x_iconst (-1) hE d_F_points_26 (by decide) ?_
      exact x_iret hc d_F_points_27 (⟨by unfold am_points; rw [if_neg ht], hR⟩)
    · exact absurd rfl z
theorem k_F_tile (hR : xc_R S σ) (hS : am_okS S) {u : Int32} : xk_M (xc G) 1 y_F_tile [.ref (xk_wA (xc G) 0), .int u] σ (xk_pi (fun r τ => r = am_tile S u ∧ xc_R S τ)) := by
  have hn8 := hS.1
  have r6 := hR.2.2.2.2.2.1
  have hp0 : 0 < 2 := by decide
  refine xk_enter (by decide) (Nat.le_of_ble_eq_true rfl) (fun K hE hc => ?_)
  show xk_X K _ _ 0 [(0, _), (1, _)] []
  refine x_aload_n hE d_F_tile_0 0 rfl ?_
  refine gf_F_28 hc d_F_tile_1 ?_
  refine x_iload_n hE d_F_tile_4 1 rfl ?_
  refine ca_F_65 hc hp0 d_F_tile_5 (k_P_has (p := 0) hp0 r6.1) (fun r τ hq => ?_)
  obtain ⟨ht, rfl⟩ := hq
  rcases ht with ⟨rfl, ht⟩ | ⟨rfl, ht⟩
  · skip
    first | refine xn_if_eq hE d_F_tile_8 (fun z => ?_) (fun z => ?_) | refine x_if_eq hE d_F_tile_8 (fun z => ?_) (fun z => ?_)
    · exact absurd z (by decide)
    · skip
      obtain ⟨j, hj, rfl⟩ := am_has_of (by omega) ht
      have hb := (hS.2.2.2.2 j hj).1
      refine x_aload_n hE d_F_tile_11 0 rfl ?_
      refine gf_F_28 hc d_F_tile_12 ?_
      refine gf_F_91 hc (p := 0) hp0 d_F_tile_15 ?_
      refine x_iload_n hE d_F_tile_18 1 rfl ?_
      refine x_aald (b := 17 + 8 * 0) hc (xc_shV (p := 0) hp0) rfl (by omega) (by decide) d_F_tile_19 ?_
      refine ca_F_95 hc (by omega) d_F_tile_20 (k_U_isDead (by omega) (r6.2 j hj).1 (by omega)) (fun r τ hq => ?_)
      obtain ⟨rfl, rfl⟩ := hq
      by_cases hd : am_pts (aP S j) = 0
      · rw [if_pos hd]
        first | refine xn_if_eq hE d_F_tile_23 (fun z => ?_) (fun z => ?_) | refine x_if_eq hE d_F_tile_23 (fun z => ?_) (fun z => ?_)
        · exact absurd z (by decide)
        · skip
          refine x_iconst (-1) hE d_F_tile_26 (by decide) ?_
          exact x_iret hc d_F_tile_27 (⟨by unfold am_tile; rw [if_neg (by rw [nI_clamp (by omega)]; omega)], hR⟩)
      · rw [if_neg hd]
        first | refine xn_if_eq hE d_F_tile_23 (fun z => ?_) (fun z => ?_) | refine x_if_eq hE d_F_tile_23 (fun z => ?_) (fun z => ?_)
        · skip
          refine x_aload_n hE d_F_tile_28 0 rfl ?_
          refine gf_F_28 hc d_F_tile_29 ?_
          refine gf_F_91 hc (p := 0) hp0 d_F_tile_32 ?_
          refine x_iload_n hE d_F_tile_35 1 rfl ?_
          refine x_aald (b := 17 + 8 * 0) hc (xc_shV (p := 0) hp0) rfl (by omega) (by decide) d_F_tile_36 ?_
          refine gf_F_101 hc (by omega) d_F_tile_37 ((r6.2 j hj).2.1 (by omega)) ?_
          exact x_iret hc d_F_tile_40 (⟨by unfold am_tile; rw [nI_clamp (by omega), if_pos ⟨ht, by omega⟩], hR⟩)
        · exact absurd rfl z
  · skip
    first | refine xn_if_eq hE d_F_tile_8 (fun z => ?_) (fun z => ?_) | refine x_if_eq hE d_F_tile_8 (fun z => ?_) (fun z => ?_)
    · skip
      refine x_iconst (-1) hE d_F_tile_26 (by decide) ?_
      exact x_iret hc d_F_tile_27 (⟨by unfold am_tile; rw [if_neg (fun q => ht q.1)], hR⟩)
    · exact absurd rfl z
theorem k_F_order (hR : xc_R S σ) (hS : am_okS S) {u : Int32} : xk_M (xc G) 1 y_F_order [.ref (xk_wA (xc G) 0), .int u] σ (xk_pi (fun r τ => r = am_order S u ∧ xc_R S τ)) := by
  have hn8 := hS.1
  have r6 := hR.2.2.2.2.2.1
  have hp0 : 0 < 2 := by decide
  refine xk_enter (by decide) (Nat.le_of_ble_eq_true rfl) (fun K hE hc => ?_)
  show xk_X K _ _ 0 [(0, _), (1, _)] []
  refine x_aload_n hE d_F_order_0 0 rfl ?_
  refine gf_F_28 hc d_F_order_1 ?_
  refine x_iload_n hE d_F_order_4 1 rfl ?_
  refine ca_F_65 hc hp0 d_F_order_5 (k_P_has (p := 0) hp0 r6.1) (fun r τ hq => ?_)
  obtain ⟨ht, rfl⟩ := hq
  rcases ht with ⟨rfl, ht⟩ | ⟨rfl, ht⟩
  · skip
    first | refine xn_if_ne hE d_F_order_8 (fun z => ?_) (fun z => ?_) | refine x_if_ne hE d_F_order_8 (fun z => ?_) (fun z => ?_)
    · skip
      obtain ⟨j, hj, rfl⟩ := am_has_of (by omega) ht
      refine x_aload_n hE d_F_order_13 0 rfl ?_
      refine gf_F_28 hc d_F_order_14 ?_
      refine gf_F_91 hc (p := 0) hp0 d_F_order_17 ?_
      refine x_iload_n hE d_F_order_20 1 rfl ?_
      refine x_aald (b := 17 + 8 * 0) hc (xc_shV (p := 0) hp0) rfl (by omega) (by decide) d_F_order_21 ?_
      refine gf_F_107 hc (by omega) d_F_order_22 (r6.2 j hj).2.2.2.1 ?_
      refine x_iconst (nI 4) hE d_F_order_25 (by decide) ?_
      refine x_aload_n hE d_F_order_26 0 rfl ?_
      refine gf_F_28 hc d_F_order_27 ?_
      refine gf_F_91 hc (p := 0) hp0 d_F_order_30 ?_
      refine x_iload_n hE d_F_order_33 1 rfl ?_
      refine x_aald (b := 17 + 8 * 0) hc (xc_shV (p := 0) hp0) rfl (by omega) (by decide) d_F_order_34 ?_
      refine gf_F_110 hc (by omega) d_F_order_35 (r6.2 j hj).2.2.2.2.1 ?_
      first | refine xn_imul hE d_F_order_38 ?_ | refine x_imul hE d_F_order_38 ?_
      first | refine xn_iadd hE d_F_order_39 ?_ | refine x_iadd hE d_F_order_39 ?_
      exact x_iret hc d_F_order_40 (⟨by unfold am_order; rw [if_pos ht, nI_clamp (by omega)], hR⟩)
    · exact absurd z (by decide)
  · skip
    first | refine xn_if_ne hE d_F_order_8 (fun z => ?_) (fun z => ?_) | refine x_if_ne hE d_F_order_8 (fun z => ?_) (fun z => ?_)
    · exact absurd rfl z
    · skip
      refine x_iconst (-1) hE d_F_order_11 (by decide) ?_
      exact x_iret hc d_F_order_12 (⟨by unfold am_order; rw [if_neg ht], hR⟩)
theorem k_F_path (hR : xc_R S σ) (hS : am_okS S) {u i : Int32} : xk_M (xc G) 1 y_F_path [.ref (xk_wA (xc G) 0), .int u, .int i] σ (xk_pi (fun r τ => r = am_path S u i ∧ xc_R S τ)) := by
  have hn8 := hS.1
  have r6 := hR.2.2.2.2.2.1
  have hp0 : 0 < 2 := by decide
  have no : ∀ K : xk_K, xk_E K c_F_path 3 → xk_H K (xc G) c_F_path 3 RF 1 (some .int) (xk_pi (fun r τ => r = am_path S u i ∧ xc_R S τ)) → ¬ (am_has (aN S) u ∧ am_has (am_pth (aP S u.toNatClampNeg)).length i) → xk_X K (xk_vw (xc G)) σ 31 [(0, .ref (xk_wA (xc G) 0)), (1, .int u), (2, .int i)] [] := by
    intro K hE hc h
    refine x_iconst (-1) hE d_F_path_31 (by decide) ?_
    exact x_iret hc d_F_path_32 (⟨by unfold am_path; rw [if_neg h], hR⟩)
  refine xk_enter (by decide) (Nat.le_of_ble_eq_true rfl) (fun K hE hc => ?_)
  show xk_X K _ _ 0 [(0, _), (1, _), (2, _)] []
  refine x_aload_n hE d_F_path_0 0 rfl ?_
  refine gf_F_28 hc d_F_path_1 ?_
  refine x_iload_n hE d_F_path_4 1 rfl ?_
  refine ca_F_65 hc hp0 d_F_path_5 (k_P_has (p := 0) hp0 r6.1) (fun r τ hq => ?_)
  obtain ⟨ht, rfl⟩ := hq
  rcases ht with ⟨rfl, ht⟩ | ⟨rfl, ht⟩
  · skip
    first | refine xn_if_eq hE d_F_path_8 (fun z => ?_) (fun z => ?_) | refine x_if_eq hE d_F_path_8 (fun z => ?_) (fun z => ?_)
    · exact absurd z (by decide)
    · skip
      refine x_iload_n hE d_F_path_11 2 rfl ?_
      refine x_if_lt hE d_F_path_12 (fun h1 => ?_) (fun h1 => ?_)
      · exact no K hE hc (fun q => q.2.1 h1)
      · skip
        obtain ⟨j, hj, rfl⟩ := am_has_of (by omega) ht
        have hlen := (hS.2.2.2.2 j hj).2.2.2.2.2.2.1
        have ej : (nI j).toNatClampNeg = j := nI_clamp (by omega)
        refine x_iload_n hE d_F_path_15 2 rfl ?_
        refine x_aload_n hE d_F_path_16 0 rfl ?_
        refine gf_F_28 hc d_F_path_17 ?_
        refine gf_F_91 hc (p := 0) hp0 d_F_path_20 ?_
        refine x_iload_n hE d_F_path_23 1 rfl ?_
        refine x_aald (b := 17 + 8 * 0) hc (xc_shV (p := 0) hp0) rfl (by omega) (by decide) d_F_path_24 ?_
        refine ca_F_113 hc (by omega) d_F_path_25 (k_U_pathLength (by omega) (r6.2 j hj)) (fun r τ hq => ?_)
        obtain ⟨rfl, rfl⟩ := hq
        refine x_icmp_lt hE d_F_path_28 (fun h2 => ?_) (fun h2 => ?_)
        · skip
          have hi : am_has (am_pth (aP S j)).length i := ⟨h1, by rw [Int32.not_le]; exact h2⟩
          obtain ⟨ii, hii, rfl⟩ := am_has_of (by omega) hi
          refine x_aload_n hE d_F_path_33 0 rfl ?_
          refine gf_F_28 hc d_F_path_34 ?_
          refine gf_F_91 hc (p := 0) hp0 d_F_path_37 ?_
          refine x_iload_n hE d_F_path_40 1 rfl ?_
          refine x_aald (b := 17 + 8 * 0) hc (xc_shV (p := 0) hp0) rfl (by omega) (by decide) d_F_path_41 ?_
          refine x_iload_n hE d_F_path_42 2 rfl ?_
          refine ca_F_117 hc (by omega) d_F_path_43 (k_U_pathTile (by omega) (r6.2 j hj) hii) (fun r τ hq => ?_)
          obtain ⟨rfl, rfl⟩ := hq
          refine x_iret hc d_F_path_46 ⟨?_, hR⟩
          unfold am_path
          rw [ej, if_pos ⟨ht, hi⟩, nI_clamp (by omega)]
          congr 1
          simp [hii]
        · refine no K hE hc (fun q => ?_)
          rw [ej] at q
          exact q.2.2 (by rw [← Int32.not_lt]; exact h2)
  · skip
    first | refine xn_if_eq hE d_F_path_8 (fun z => ?_) (fun z => ?_) | refine x_if_eq hE d_F_path_8 (fun z => ?_) (fun z => ?_)
    · exact no K hE hc (fun q => ht q.1)
    · exact absurd rfl z
theorem xc_R_s {τ : xk_St} (h : xc_R S σ) (h2 : xs_F σ τ) (hn : aN S ≤ 8) : xc_R S τ := by
  obtain ⟨r1, r2, r3, r4, r5, r6, r7, r8⟩ := h
  refine ⟨r1.mv h2.1, ?_, ?_, fun i hi => ?_, r5.mv (fun k h3 h4 => h2.2 k (by omega) (by omega) (by omega)), r6.mv hn (fun k h => h2.2 k (by omega) (by omega) (by omega)), ?_, fun p hp u hu => ?_⟩
  · rw [h2.2 0 (by omega) (by omega) (by omega)]; exact r2
  · rw [h2.2 0 (by omega) (by omega) (by omega)]; exact r3
  · rw [h2.2 16 (by omega) (by omega) (by omega)]; exact r4 i hi
  · rw [h2.2 13 (by omega) (by omega) (by omega)]; exact r7
  · rw [h2.2 _ (by omega) (by omega) (by omega)]; exact r8 p hp u hu
theorem k_F_steps (hR : xc_R S σ) (hS : am_okS S) {a b : Int32} : xk_M (xc G) 2 y_F_steps [.ref (xk_wA (xc G) 0), .int a, .int b] σ (xk_pi (fun r τ => r = am_steps S a b ∧ xc_R S τ)) := by
  have r1 := hR.1
  have no : ∀ K : xk_K, xk_E K c_F_steps 4 → xk_H K (xc G) c_F_steps 4 RF 2 (some .int) (xk_pi (fun r τ => r = am_steps S a b ∧ xc_R S τ)) → (¬ am_has 64 a ∨ ¬ am_has 64 b ∨ aW S a.toNatClampNeg = true ∨ aW S b.toNatClampNeg = true) → xk_X K (xk_vw (xc G)) σ 36 [(0, .ref (xk_wA (xc G) 0)), (1, .int a), (2, .int b)] [] := by
    intro K hE hc h
    refine x_iconst (-1) hE d_F_steps_36 (by decide) ?_
    exact x_iret hc d_F_steps_37 (⟨by unfold am_steps; rw [if_pos h], hR⟩)
  refine xk_enter (by decide) (Nat.le_of_ble_eq_true rfl) (fun K hE hc => ?_)
  show xk_X K _ _ 0 [(0, _), (1, _), (2, _)] []
  refine x_iload_n hE d_F_steps_0 1 rfl ?_
  refine ca_F_43 hc d_F_steps_1 (k_F_isTile) (fun r τ hq => ?_)
  obtain ⟨ht, rfl⟩ := hq
  rcases ht with ⟨rfl, ht⟩ | ⟨rfl, ht⟩
  · skip
    first | refine xn_if_eq hE d_F_steps_4 (fun z => ?_) (fun z => ?_) | refine x_if_eq hE d_F_steps_4 (fun z => ?_) (fun z => ?_)
    · exact absurd z (by decide)
    · skip
      refine x_iload_n hE d_F_steps_7 2 rfl ?_
      refine ca_F_43 hc d_F_steps_8 (k_F_isTile) (fun r τ hq => ?_)
      obtain ⟨hu, rfl⟩ := hq
      rcases hu with ⟨rfl, hu⟩ | ⟨rfl, hu⟩
      · skip
        first | refine xn_if_eq hE d_F_steps_11 (fun z => ?_) (fun z => ?_) | refine x_if_eq hE d_F_steps_11 (fun z => ?_) (fun z => ?_)
        · exact absurd z (by decide)
        · skip
          obtain ⟨ja, hja, rfl⟩ := am_has_of (by decide) ht
          obtain ⟨jb, hjb, rfl⟩ := am_has_of (by decide) hu
          have ea : (nI ja).toNatClampNeg = ja := nI_clamp (by omega)
          have eb : (nI jb).toNatClampNeg = jb := nI_clamp (by omega)
          refine x_aload_n hE d_F_steps_14 0 rfl ?_
          refine gf_F_10 hc d_F_steps_15 ?_
          refine x_iload_n hE d_F_steps_18 1 rfl ?_
          refine ca_F_54 hc d_F_steps_19 (k_G_isWall r1 hja) (fun r τ hq => ?_)
          obtain ⟨rfl, rfl⟩ := hq
          cases hwa : aW S ja with
          | true =>
            first | refine xn_if_ne hE d_F_steps_22 (fun z => ?_) (fun z => ?_) | refine x_if_ne hE d_F_steps_22 (fun z => ?_) (fun z => ?_)
            · exact no K hE hc (Or.inr (Or.inr (Or.inl (by rw [ea]; exact hwa))))
            · exact absurd z (by decide)
          | false =>
            first | refine xn_if_ne hE d_F_steps_22 (fun z => ?_) (fun z => ?_) | refine x_if_ne hE d_F_steps_22 (fun z => ?_) (fun z => ?_)
            · exact absurd rfl z
            · skip
              refine x_aload_n hE d_F_steps_25 0 rfl ?_
              refine gf_F_10 hc d_F_steps_26 ?_
              refine x_iload_n hE d_F_steps_29 2 rfl ?_
              refine ca_F_54 hc d_F_steps_30 (k_G_isWall r1 hjb) (fun r τ hq => ?_)
              obtain ⟨rfl, rfl⟩ := hq
              cases hwb : aW S jb with
              | true =>
                first | refine xn_if_eq hE d_F_steps_33 (fun z => ?_) (fun z => ?_) | refine x_if_eq hE d_F_steps_33 (fun z => ?_) (fun z => ?_)
                · exact absurd z (by decide)
                · exact no K hE hc (Or.inr (Or.inr (Or.inr (by rw [eb]; exact hwb))))
              | false =>
                first | refine xn_if_eq hE d_F_steps_33 (fun z => ?_) (fun z => ?_) | refine x_if_eq hE d_F_steps_33 (fun z => ?_) (fun z => ?_)
                · skip
                  refine x_aload_n hE d_F_steps_38 0 rfl ?_
                  refine gf_F_10 hc d_F_steps_39 ?_
                  refine x_iload_n hE d_F_steps_42 1 rfl ?_
                  refine x_iload_n hE d_F_steps_43 2 rfl ?_
                  refine x_lconst 0 hE d_F_steps_44 (by decide) ?_
                  have h00 : ∀ t, t < 64 → xb_t 0 t = (fun _ => false : Nat → Bool) t := fun t _ => xb_zero t
                  refine ca_F_121 hc d_F_steps_45 (k_G_search r1 h00 hja hjb) (fun r τ hq => ?_)
                  obtain ⟨rfl, q1, q2⟩ := hq
                  have e : am_steps S (nI ja) (nI jb) = xc_dp (am_end (am_free (aW S) (fun _ => false) jb) ja jb) jb := by
                    unfold am_steps
                    rw [ea, eb, hwa, hwb, if_neg (fun q => by
                      rcases q with q | q | q | q
                      · exact q ht
                      · exact q hu
                      · cases q
                      · cases q)]
                  refine x_istore_n [(3, _), (0, _), (1, _), (2, _)] hE d_F_steps_48 rfl (by decide) rfl ?_
                  refine x_iload_n hE d_F_steps_49 0 rfl ?_
                  refine x_iconst (-1) hE d_F_steps_50 (by decide) ?_
                  refine x_icmp_ne hE d_F_steps_51 (fun g => ?_) (fun g => ?_)
                  · skip
                    refine x_iload_n hE d_F_steps_58 0 rfl ?_
                    exact x_iret hc d_F_steps_59 (⟨e.symm, xc_R_s hR q2 hS.1⟩)
                  · skip
                    refine x_iconst (-1) hE d_F_steps_54 (by decide) ?_
                    refine x_goto hE d_F_steps_55 ?_
                    exact x_iret hc d_F_steps_59 (⟨by rw [e, g], xc_R_s hR q2 hS.1⟩)
                · exact absurd rfl z
      · skip
        first | refine xn_if_eq hE d_F_steps_11 (fun z => ?_) (fun z => ?_) | refine x_if_eq hE d_F_steps_11 (fun z => ?_) (fun z => ?_)
        · exact no K hE hc (Or.inr (Or.inl hu))
        · exact absurd rfl z
  · skip
    first | refine xn_if_eq hE d_F_steps_4 (fun z => ?_) (fun z => ?_) | refine x_if_eq hE d_F_steps_4 (fun z => ?_) (fun z => ?_)
    · exact no K hE hc (Or.inl ht)
    · exact absurd rfl z
theorem k_F_winner (hR : xc_R S σ) (hS : am_okS S) : xk_M (xc G) 2 y_F_winner [.ref (xk_wA (xc G) 0)] σ (xk_pi (fun r τ => r = am_winner S ∧ xc_R S τ)) := by
  have r6 := hR.2.2.2.2.2.1
  have r8 := hR.2.2.2.2.2.2.2
  have hp0 : 0 < 2 := by decide
  have hsd : ∀ u, u < aN S → σ.1 (17 + 8 * 0 + u) 0 = nI (aSd S u) ∧ aSd S u < 2 := fun u hu => ⟨(r8 0 hp0 u hu).1, (hS.2.1 u hu).1⟩
  refine xk_enter (by decide) (Nat.le_of_ble_eq_true rfl) (fun K hE hc => ?_)
  show xk_X K _ _ 0 [(0, _)] []
  refine x_aload_n hE d_F_winner_0 0 rfl ?_
  refine gf_F_28 hc d_F_winner_1 ?_
  refine x_iconst (nI 0) hE d_F_winner_4 (by decide) ?_
  refine ca_F_125 hc hp0 d_F_winner_5 (k_P_hasLiving (p := 0) hp0 hS.1 r6 hS.2.2.2.2 (s := 0) hp0 hsd) (fun r τ hq => ?_)
  obtain ⟨rfl, rfl⟩ := hq
  refine x_istore_n [(1, _), (0, _)] hE d_F_winner_8 rfl (by decide) rfl ?_
  refine x_aload_n hE d_F_winner_9 1 rfl ?_
  refine gf_F_28 hc d_F_winner_10 ?_
  refine x_iconst (nI 1) hE d_F_winner_13 (by decide) ?_
  refine ca_F_125 hc hp0 d_F_winner_14 (k_P_hasLiving (p := 0) hp0 hS.1 r6 hS.2.2.2.2 (s := 1) (by decide) hsd) (fun r τ hq => ?_)
  obtain ⟨rfl, rfl⟩ := hq
  refine x_istore_n [(2, _), (1, _), (0, _)] hE d_F_winner_17 rfl (by decide) rfl ?_
  refine x_iload_n hE d_F_winner_18 1 rfl ?_
  have e : am_winner S = (if am_liv (aSd S) (aP S) 0 (aN S) = true ∧ am_liv (aSd S) (aP S) 1 (aN S) = true then nI 2 else if am_liv (aSd S) (aP S) 0 (aN S) = true then nI 0 else if am_liv (aSd S) (aP S) 1 (aN S) = true then nI 1 else nI 3) := rfl
  cases h0 : am_liv (aSd S) (aP S) 0 (aN S) with
  | true =>
    first | refine xn_if_eq hE d_F_winner_19 (fun z => ?_) (fun z => ?_) | refine x_if_eq hE d_F_winner_19 (fun z => ?_) (fun z => ?_)
    · exact absurd z (by decide)
    · skip
      show xk_X K _ _ 22 [(2, _), (1, .int (nI 1)), (0, _)] []
      refine x_iload_n hE d_F_winner_22 0 rfl ?_
      cases h1 : am_liv (aSd S) (aP S) 1 (aN S) with
      | true =>
        first | refine xn_if_eq hE d_F_winner_23 (fun z => ?_) (fun z => ?_) | refine x_if_eq hE d_F_winner_23 (fun z => ?_) (fun z => ?_)
        · exact absurd z (by decide)
        · skip
          refine x_iconst (nI 2) hE d_F_winner_26 (by decide) ?_
          exact x_iret hc d_F_winner_27 (⟨by rw [e, h0, h1]; rfl, hR⟩)
      | false =>
        first | refine xn_if_eq hE d_F_winner_23 (fun z => ?_) (fun z => ?_) | refine x_if_eq hE d_F_winner_23 (fun z => ?_) (fun z => ?_)
        · skip
          refine x_iload_n hE d_F_winner_28 1 rfl ?_
          first | refine xn_if_eq hE d_F_winner_29 (fun y => ?_) (fun y => ?_) | refine x_if_eq hE d_F_winner_29 (fun y => ?_) (fun y => ?_)
          · exact absurd y (by decide)
          · skip
            refine x_iconst (nI 0) hE d_F_winner_32 (by decide) ?_
            exact x_iret hc d_F_winner_33 (⟨by rw [e, h0, h1]; rfl, hR⟩)
        · exact absurd rfl z
  | false =>
    first | refine xn_if_eq hE d_F_winner_19 (fun z => ?_) (fun z => ?_) | refine x_if_eq hE d_F_winner_19 (fun z => ?_) (fun z => ?_)
    · skip
      show xk_X K _ _ 28 [(2, _), (1, .int (nI 0)), (0, _)] []
      refine x_iload_n hE d_F_winner_28 1 rfl ?_
      first | refine xn_if_eq hE d_F_winner_29 (fun y => ?_) (fun y => ?_) | refine x_if_eq hE d_F_winner_29 (fun y => ?_) (fun y => ?_)
      · skip
        refine x_iload_n hE d_F_winner_34 0 rfl ?_
        cases h1 : am_liv (aSd S) (aP S) 1 (aN S) with
        | true =>
          first | refine xn_if_eq hE d_F_winner_35 (fun x => ?_) (fun x => ?_) | refine x_if_eq hE d_F_winner_35 (fun x => ?_) (fun x => ?_)
          · exact absurd x (by decide)
          · skip
            refine x_iconst (nI 1) hE d_F_winner_38 (by decide) ?_
            refine x_goto hE d_F_winner_39 ?_
            exact x_iret hc d_F_winner_43 (⟨by rw [e, h0, h1]; rfl, hR⟩)
        | false =>
          first | refine xn_if_eq hE d_F_winner_35 (fun x => ?_) (fun x => ?_) | refine x_if_eq hE d_F_winner_35 (fun x => ?_) (fun x => ?_)
          · skip
            refine x_iconst (nI 3) hE d_F_winner_42 (by decide) ?_
            exact x_iret hc d_F_winner_43 (⟨by rw [e, h0, h1]; rfl, hR⟩)
          · exact absurd rfl x
      · exact absurd rfl y
    · exact absurd rfl z
theorem k_F_run (hR : xc_R S σ) (hS : am_okS S) {m : Int32} : xk_M (xc G) 6 y_F_run [.ref (xk_wA (xc G) 0), .int m] σ (xk_pi (fun r τ => r = (am_run S m).1 ∧ xc_R (am_run S m).2 τ)) := by
  have h200 := hS.2.2.1
  have hp0 : 0 < 2 := by decide
  have no : ∀ K : xk_K, xk_E K c_F_run 3 → xk_H K (xc G) c_F_run 3 RF 6 (some .int) (xk_pi (fun r τ => r = (am_run S m).1 ∧ xc_R (am_run S m).2 τ)) → (m < nI 1 ∨ nI 20 < m) → xk_X K (xk_vw (xc G)) σ 11 [(0, .ref (xk_wA (xc G) 0)), (1, .int m)] [] := by
    intro K hE hc h
    refine x_iconst (-1) hE d_F_run_11 (by decide) ?_
    have e : am_run S m = (-1, S) := by unfold am_run; rw [if_pos h]
    exact x_iret hc d_F_run_12 (by rw [e]; exact ⟨rfl, hR⟩)
  refine xk_enter (by decide) (Nat.le_of_ble_eq_true rfl) (fun K hE hc => ?_)
  show xk_X K _ _ 0 [(0, _), (1, _)] []
  refine x_iload_n hE d_F_run_0 1 rfl ?_
  refine x_iconst (nI 1) hE d_F_run_1 (by decide) ?_
  refine x_icmp_lt hE d_F_run_2 (fun h1 => ?_) (fun h1 => ?_)
  · exact no K hE hc (Or.inl h1)
  · skip
    refine x_iload_n hE d_F_run_5 1 rfl ?_
    refine x_bipush (nI 20) hE d_F_run_6 (by decide) ?_
    refine x_icmp_le hE d_F_run_8 (fun h2 => ?_) (fun h2 => ?_)
    · skip
      have hneg : ¬ (m < nI 1 ∨ nI 20 < m) := fun q => by
        rcases q with q | q
        · exact h1 q
        · exact (Int32.not_le.mpr q) h2
      obtain ⟨mm, hm1, rfl⟩ : ∃ mm, mm ≤ 20 ∧ m = nI mm := by
        have hpos : ¬ m < 0 := fun q => h1 (by
          rw [Int32.lt_iff_toInt_lt] at q ⊢
          rw [nI_toInt (by decide)]
          rw [Int32.toInt_zero] at q
          omega)
        exact nI_of2 (M := nI 20) (by decide) hpos h2
      have hm0 : 1 ≤ mm := by
        rcases Nat.eq_zero_or_pos mm with e | e
        · subst e; exact absurd (by decide) h1
        · exact e
      have em : (nI mm).toNatClampNeg = mm := nI_clamp (by omega)
      refine x_aload_n hE d_F_run_13 0 rfl ?_
      refine gf_F_39 hc d_F_run_14 hR.2.2.1 ?_
      cases hbg : aBg S with
      | false =>
        first | refine xn_if_ne hE d_F_run_17 (fun z => ?_) (fun z => ?_) | refine x_if_ne hE d_F_run_17 (fun z => ?_) (fun z => ?_)
        · exact absurd rfl z
        · skip
          refine x_bipush (-3) hE d_F_run_20 (by decide) ?_
          have e : am_run S (nI mm) = (-3, S) := by unfold am_run; rw [if_neg hneg, if_pos hbg]
          exact x_iret hc d_F_run_22 (by rw [e]; exact ⟨rfl, hR⟩)
      | true =>
        first | refine xn_if_ne hE d_F_run_17 (fun z => ?_) (fun z => ?_) | refine x_if_ne hE d_F_run_17 (fun z => ?_) (fun z => ?_)
        · skip
          refine x_iload_n hE d_F_run_23 1 rfl ?_
          refine x_sipush (nI 200) hE d_F_run_24 (by decide) ?_
          refine x_aload_n hE d_F_run_27 0 rfl ?_
          refine gf_F_72 hc d_F_run_28 hR.2.1 ?_
          first | refine xn_isub hE d_F_run_31 ?_ | refine x_isub hE d_F_run_31 ?_
          first | refine xn_icmp_le hE d_F_run_32 (fun h3 => ?_) (fun h3 => ?_) | refine x_icmp_le hE d_F_run_32 (fun h3 => ?_) (fun h3 => ?_)
          · skip
            have hroom : aPl S + mm ≤ 200 := by omega
            have e : am_run S (nI mm) = (nI (aPl S + mm), am_runs mm S) := by
              unfold am_run
              rw [if_neg hneg, if_neg (by rw [hbg]; simp), em, if_neg (by omega)]
            refine x_iconst (nI 0) hE d_F_run_38 (by decide) ?_
            refine x_istore_n [(2, _), (0, _), (1, _)] hE d_F_run_39 rfl (by decide) rfl ?_
            refine x_lv [1, 2, 0] (lv' := [(0, _), (1, _), (2, _)]) rfl ?_
            have loop : ∀ (q i : Nat) (S2 : am_S) (τ : xk_St), i + q = mm → xc_R S2 τ → am_okS S2 → aPl S2 + q ≤ 200 → am_runs q S2 = am_runs mm S → xk_X K (xk_vw (xc G)) τ 40 [(0, .ref (xk_wA (xc G) 0)), (1, .int (nI mm)), (2, .int (nI i))] [] := by
              intro q
              induction q with
              | zero =>
                intro i S2 τ hi hR2 hS2 hr he
                refine x_iload_n hE d_F_run_40 2 rfl ?_
                refine x_iload_n hE d_F_run_41 1 rfl ?_
                first | refine xn_icmp_ge hE d_F_run_42 (fun h => ?_) (fun h => ?_) | refine x_icmp_ge hE d_F_run_42 (fun h => ?_) (fun h => ?_)
                · skip
                  refine x_aload_n hE d_F_run_85 0 rfl ?_
                  refine gf_F_72 hc d_F_run_86 hR2.2.1 ?_
                  have he : S2 = am_runs mm S := he
                  refine x_iret hc d_F_run_89 ?_
                  rw [e, ← am_runs_pl, ← he]
                  exact ⟨rfl, hR2⟩
                · exact absurd h (by omega)
              | succ q ih =>
                intro i S2 τ hi hR2 hS2 hr he
                have hn8 := hS2.1
                obtain ⟨r1, r2, r3, r4, r5, r6, r7, r8⟩ := hR2
                refine x_iload_n hE d_F_run_40 2 rfl ?_
                refine x_iload_n hE d_F_run_41 1 rfl ?_
                first | refine xn_icmp_ge hE d_F_run_42 (fun h => ?_) (fun h => ?_) | refine x_icmp_ge hE d_F_run_42 (fun h => ?_) (fun h => ?_)
                · exact absurd h (by omega)
                · skip
                  refine x_aload_n hE d_F_run_45 0 rfl ?_
                  refine gf_F_35 hc d_F_run_46 ?_
                  refine x_aload_n hE d_F_run_49 0 rfl ?_
                  refine gf_F_72 hc d_F_run_50 r2 ?_
                  refine x_aload_n hE d_F_run_53 0 rfl ?_
                  refine gf_F_28 hc d_F_run_54 ?_
                  refine x_aload_n hE d_F_run_57 0 rfl ?_
                  refine gf_F_72 hc d_F_run_58 r2 ?_
                  refine x_aload_n hE d_F_run_61 0 rfl ?_
                  refine gf_F_19 hc d_F_run_62 ?_
                  refine ca_F_84 hc hp0 d_F_run_65 (k_P_playTick (p := 0) hp0 hS2.1 r6 hS2.2.2.2.2 r1 (show aPl S2 < 2 ^ 31 by omega) r5 hS2.2.2.2.1) (fun r τ hq => ?_)
                  obtain ⟨rfl, p1, p2⟩ := hq
                  have p3 : τ.1 0 5 = nI (aPl S2) := by rw [p2.2.1 0 (by omega)]; exact r2
                  refine x_iast hc rfl rfl (by omega) (by decide) d_F_run_68 ?_
                  refine x_aload_n hE d_F_run_69 0 rfl ?_
                  refine x_dup hE d_F_run_70 rfl ?_
                  refine gf_F_72 hc d_F_run_71 (show _ = nI (aPl S2) by rw [xk_up_o (by omega)]; exact p3) ?_
                  refine x_iconst (nI 1) hE d_F_run_74 (by decide) ?_
                  first | refine xn_iadd hE d_F_run_75 ?_ | refine x_iadd hE d_F_run_75 ?_
                  refine pf_F_72 hc d_F_run_76 ?_
                  refine x_iinc 2 (nI (_ + 1)) [(2, _), (0, _), (1, _)] hE d_F_run_79 rfl (nI_inc _) (by decide) rfl ?_
                  refine x_goto hE d_F_run_82 ?_
                  refine x_lv [1, 2, 0] (lv' := [(0, _), (1, _), (2, _)]) rfl ?_
                  refine ih (i + 1) (am_one S2) _ (by omega) ?_ (am_ok_one hS2 (by omega)) (by show aPl S2 + 1 + q ≤ 200; omega) he
                  refine ⟨r1.mv p2.1, ?_, ?_, fun k hk => ?_, r5.mv (fun k h1 h2 => ?_), p1.mv hn8 (fun k h => ?_), ?_, fun p hp u hu => ?_⟩
                  · rw [xk_up_s, if_pos rfl]; rfl
                  · rw [xk_up_s, if_neg (by decide), xk_up_o (by omega), p2.2.1 0 (by omega)]; exact r3
                  · have hk : k < aPl S2 + 1 := hk
                    rw [xk_up_o (by omega), xk_up_s]
                    show _ = am_set (aNm S2) (aPl S2) _ k
                    by_cases e1 : k = aPl S2
                    · subst e1; rw [if_pos rfl, am_set_s]
                    · rw [if_neg e1, am_set_n e1, p2.2.1 16 (by omega)]; exact r4 k (by omega)
                  · rw [xk_up_o (by omega), xk_up_o (by omega), p2.2.1 k (by omega)]
                  · rw [xk_up_o (by omega), xk_up_o (by omega)]
                  · rw [xk_up_o (by omega), xk_up_o (by omega), p2.2.1 13 (by omega)]; exact r7
                  · have hu : u < aN S2 := hu
                    rw [xk_up_o (by omega), xk_up_o (by omega)]
                    have hpc : p = 0 ∨ p = 1 := by omega
                    rcases hpc with rfl | rfl
                    · rw [(p2.2.2 _ (by omega) (by omega)).1, (p2.2.2 _ (by omega) (by omega)).2]; exact r8 0 (by omega) u hu
                    · rw [p2.2.1 _ (by omega)]; exact r8 1 (by omega) u hu
            exact loop mm 0 S σ (by omega) hR hS hroom rfl
          · skip
            refine x_bipush (-2) hE d_F_run_35 (by decide) ?_
            have e : am_run S (nI mm) = (-2, S) := by
              unfold am_run
              rw [if_neg hneg, if_neg (by rw [hbg]; simp), em, if_pos (by omega)]
            exact x_iret hc d_F_run_37 (by rw [e]; exact ⟨rfl, hR⟩)
        · exact absurd z (by decide)
    · exact no K hE hc (Or.inr (by rw [← Int32.not_le]; exact h2))
theorem xc_R_1 {τ : xk_St} (h : xc_R S σ) (h2 : xc_fr 1 σ τ) (hn : aN S ≤ 8) : xc_R S τ := by
  obtain ⟨r1, r2, r3, r4, r5, r6, r7, r8⟩ := h
  refine ⟨r1.mv h2.1, ?_, ?_, fun i hi => ?_, r5.mv (fun k h3 h4 => h2.2.1 k (by omega)), r6.mv hn (fun k h => h2.2.1 k (by omega)), ?_, fun p hp u hu => ?_⟩
  · rw [h2.2.1 0 (by omega)]; exact r2
  · rw [h2.2.1 0 (by omega)]; exact r3
  · rw [h2.2.1 16 (by omega)]; exact r4 i hi
  · rw [h2.2.1 13 (by omega)]; exact r7
  · have hpc : p = 0 ∨ p = 1 := by omega
    rcases hpc with rfl | rfl
    · rw [h2.2.1 _ (by omega)]; exact r8 0 (by omega) u hu
    · rw [(h2.2.2 _ (by omega) (by omega)).1, (h2.2.2 _ (by omega) (by omega)).2]; exact r8 1 (by omega) u hu
theorem am_okP_0 (hS : am_okS S) : am_okP (aN S) (fun u => (20, aSt S u, 0, 0, 0, [])) := fun u hu => ⟨Nat.le_refl 20, (hS.2.1 u hu).2, Nat.zero_le _, (by decide : 0 < 64), fun e => absurd e (show ¬ (0 : Nat) = 2 by decide), (by decide : 0 < 3), Nat.zero_le _, fun t ht => absurd ht List.not_mem_nil, fun e => absurd e (show ¬ (20 : Nat) = 0 by decide)⟩
theorem k_F_replay (hR : xc_R S σ) (hS : am_okS S) : xk_M (xc G) 6 y_F_replay [.ref (xk_wA (xc G) 0)] σ (xk_pi (fun r τ => r = am_replay S ∧ xc_R S τ)) := by
  have h200 := hS.2.2.1
  have hn8 := hS.1
  have hp1 : 1 < 2 := by decide
  refine xk_enter (by decide) (Nat.le_of_ble_eq_true rfl) (fun K hE hc => ?_)
  show xk_X K _ _ 0 [(0, _)] []
  refine x_aload_n hE d_F_replay_0 0 rfl ?_
  refine gf_F_32 hc d_F_replay_1 ?_
  refine ca_F_88 hc hp1 d_F_replay_4 (k_P_restart (p := 1) hp1 hS.1 hR.2.2.2.2.2.2.1 (fun u hu => (hR.2.2.2.2.2.2.2 1 hp1 u hu).2)) (fun τ hq => ?_)
  obtain ⟨s1, s2⟩ := hq
  refine x_iconst (nI 0) hE d_F_replay_7 (by decide) ?_
  refine x_istore_n [(1, _), (0, _)] hE d_F_replay_8 rfl (by decide) rfl ?_
  refine x_lv [1, 0] (lv' := [(0, _), (1, _)]) rfl ?_
  have loop : ∀ (f t : Nat) (P : am_P) (τ : xk_St), t + f = aPl S → xc_pl 1 (aN S) P τ → am_okP (aN S) P → xc_fr 1 σ τ → am_rp S f t P = am_replay S → xk_X K (xk_vw (xc G)) τ 9 [(0, .ref (xk_wA (xc G) 0)), (1, .int (nI t))] [] := by
    intro f
    induction f with
    | zero =>
      intro t P τ ht hpl hok hf he
      have hR2 := xc_R_1 hR hf hn8
      refine x_iload_n hE d_F_replay_9 1 rfl ?_
      refine x_aload_n hE d_F_replay_10 0 rfl ?_
      refine gf_F_72 hc d_F_replay_11 hR2.2.1 ?_
      first | refine xn_icmp_ge hE d_F_replay_14 (fun h => ?_) (fun h => ?_) | refine x_icmp_ge hE d_F_replay_14 (fun h => ?_) (fun h => ?_)
      · skip
        refine x_iconst (-1) hE d_F_replay_46 (by decide) ?_
        exact x_iret hc d_F_replay_47 (⟨by rw [← he]; rfl, hR2⟩)
      · exact absurd h (by omega)
    | succ f ih =>
      intro t P τ ht hpl hok hf he
      have hR2 := xc_R_1 hR hf hn8
      refine x_iload_n hE d_F_replay_9 1 rfl ?_
      refine x_aload_n hE d_F_replay_10 0 rfl ?_
      refine gf_F_72 hc d_F_replay_11 hR2.2.1 ?_
      first | refine xn_icmp_ge hE d_F_replay_14 (fun h => ?_) (fun h => ?_) | refine x_icmp_ge hE d_F_replay_14 (fun h => ?_) (fun h => ?_)
      · exact absurd h (by omega)
      · skip
        refine x_aload_n hE d_F_replay_17 0 rfl ?_
        refine gf_F_32 hc d_F_replay_18 ?_
        refine x_iload_n hE d_F_replay_21 1 rfl ?_
        refine x_aload_n hE d_F_replay_22 0 rfl ?_
        refine gf_F_19 hc d_F_replay_23 ?_
        refine ca_F_84 hc hp1 d_F_replay_26 (k_P_playTick (p := 1) hp1 hn8 hpl hok hR2.1 (show t < 2 ^ 31 by omega) hR2.2.2.2.2.1 hS.2.2.2.1) (fun r τ hq => ?_)
        obtain ⟨rfl, p1, p2⟩ := hq
        have hR3 := xc_R_1 hR (hf.tr p2) hn8
        refine x_aload_n hE d_F_replay_29 0 rfl ?_
        refine gf_F_35 hc d_F_replay_30 ?_
        refine x_iload_n hE d_F_replay_33 1 rfl ?_
        refine x_iald hc rfl rfl (by omega) (by decide) d_F_replay_34 (hR3.2.2.2.1 t (by omega)) ?_
        rw [am_rp] at he
        refine x_icmp_eq hE d_F_replay_35 (fun g => ?_) (fun g => ?_)
        · skip
          rw [if_pos g] at he
          refine x_iinc 1 (nI (_ + 1)) [(1, _), (0, _)] hE d_F_replay_40 rfl (nI_inc _) (by decide) rfl ?_
          refine x_goto hE d_F_replay_43 ?_
          refine x_lv [1, 0] (lv' := [(0, _), (1, _)]) rfl ?_
          exact ih (t + 1) _ _ (by omega) p1 (am_okP_tick hok hS.2.2.2.1) (hf.tr p2) he
        · skip
          rw [if_neg g] at he
          refine x_iload_n hE d_F_replay_38 1 rfl ?_
          exact x_iret hc d_F_replay_39 (⟨he, hR3⟩)
  exact loop (aPl S) 0 _ _ (by omega) s1 (am_okP_0 hS) s2 rfl
end XF3
end
section
/-! THE REFERENCE: its world, and its leaves -/
def xm_W (W : Nat → Bool) (σ : xk_St) : Prop := ∀ t, t < 64 → σ.1 1 t = (if W t = true then nI 1 else nI 0)
def xm_at (σ : xk_St) (u : Nat) (x : am_U) : Prop := σ.1 9 u = nI (am_pts x) ∧ (0 < am_pts x → σ.1 10 u = nI (am_til x)) ∧ σ.1 11 u = nI (am_ord x) ∧ σ.1 12 u = nI (am_aim x) ∧ σ.1 13 u = nI (am_pat x) ∧ σ.1 15 u = nI (am_pth x).length ∧ (am_pth x).length ≤ 64 ∧ ∀ i (h : i < (am_pth x).length), σ.1 14 (64 * u + i) = nI ((am_pth x)[i])
def xm_pl (n : Nat) (P : am_P) (σ : xk_St) : Prop := σ.1 0 1 = nI n ∧ ∀ u, u < n → xm_at σ u (P u)
def xm_one (u : Nat) (σ τ : xk_St) : Prop := τ.2 = σ.2 ∧ (∀ k, k < 9 ∨ (15 < k ∧ k < 23) ∨ 25 < k → τ.1 k = σ.1 k) ∧ (∀ k v, v ≠ u → k ≠ 14 → 9 ≤ k → k ≤ 15 → τ.1 k v = σ.1 k v) ∧ ∀ i, i < 64 * u ∨ 64 * u + 64 ≤ i → τ.1 14 i = σ.1 14 i
def xm_fr (σ τ : xk_St) : Prop := τ.2 = σ.2 ∧ ∀ k, k < 9 ∨ (15 < k ∧ k < 23) ∨ 26 < k → τ.1 k = σ.1 k
theorem xm_fr.rf {σ : xk_St} : xm_fr σ σ := ⟨rfl, fun _ _ => rfl⟩
theorem xm_fr.tr {σ τ υ : xk_St} (h : xm_fr σ τ) (g : xm_fr τ υ) : xm_fr σ υ := ⟨g.1.trans h.1, fun k hk => (g.2 k hk).trans (h.2 k hk)⟩
theorem xm_one.rf {u : Nat} {σ : xk_St} : xm_one u σ σ := ⟨rfl, fun _ _ => rfl, fun _ _ _ _ _ _ => rfl, fun _ _ => rfl⟩
theorem xm_one.tr {u : Nat} {σ τ υ : xk_St} (h : xm_one u σ τ) (g : xm_one u τ υ) : xm_one u σ υ := ⟨g.1.trans h.1, fun k hk => (g.2.1 k hk).trans (h.2.1 k hk), fun k v a b c d => (g.2.2.1 k v a b c d).trans (h.2.2.1 k v a b c d), fun i hi => (g.2.2.2 i hi).trans (h.2.2.2 i hi)⟩
theorem xm_one.fr {u : Nat} {σ τ : xk_St} (h : xm_one u σ τ) : xm_fr σ τ := ⟨h.1, fun k hk => h.2.1 k (by omega)⟩
theorem xm_one.up {u k : Nat} {σ : xk_St} {v : Int32} (h1 : 9 ≤ k) (h2 : k ≤ 15) (h3 : k ≠ 14) : xm_one u σ (xk_up σ k u v) := by
  refine ⟨rfl, fun j hj => xk_up_o (by omega), fun j w hw _ _ _ => ?_, fun i _ => by rw [xk_up_o (by omega)]⟩
  by_cases e : j = k
  · subst e; rw [xk_up_s, if_neg hw]
  · rw [xk_up_o e]
theorem xm_pl.set {n u : Nat} {P : am_P} {σ τ : xk_St} {x : am_U} (h : xm_pl n P σ) (hx : xm_at τ u x) (ho : xm_one u σ τ) : xm_pl n (am_set P u x) τ := by
  refine ⟨by rw [ho.2.1 0 (by omega)]; exact h.1, fun v hv => ?_⟩
  by_cases e : v = u
  · subst e; rw [am_set_s]; exact hx
  · rw [am_set_n e]
    obtain ⟨h1, h2, h3, h4, h5, h6, h7, h8⟩ := h.2 v hv
    refine ⟨?_, fun q => ?_, ?_, ?_, ?_, ?_, h7, fun i hi => ?_⟩
    · rw [ho.2.2.1 9 v e (by omega) (by omega) (by omega)]; exact h1
    · rw [ho.2.2.1 10 v e (by omega) (by omega) (by omega)]; exact h2 q
    · rw [ho.2.2.1 11 v e (by omega) (by omega) (by omega)]; exact h3
    · rw [ho.2.2.1 12 v e (by omega) (by omega) (by omega)]; exact h4
    · rw [ho.2.2.1 13 v e (by omega) (by omega) (by omega)]; exact h5
    · rw [ho.2.2.1 15 v e (by omega) (by omega) (by omega)]; exact h6
    · rw [ho.2.2.2 _ (by omega)]; exact h8 i hi
theorem xm_pl.mv {n : Nat} {P : am_P} {σ τ : xk_St} (h : xm_pl n P σ) (e : ∀ k, k = 0 ∨ (9 ≤ k ∧ k ≤ 15) → τ.1 k = σ.1 k) : xm_pl n P τ := by
  refine ⟨by rw [e 0 (by omega)]; exact h.1, fun v hv => ?_⟩
  have h1 := h.2 v hv
  unfold xm_at at h1 ⊢
  rw [e 9 (by omega), e 10 (by omega), e 11 (by omega), e 12 (by omega), e 13 (by omega), e 14 (by omega), e 15 (by omega)]
  exact h1
theorem xm_W.mv {W : Nat → Bool} {σ τ : xk_St} (h : xm_W W σ) (e : τ.1 1 = σ.1 1) : xm_W W τ := fun t ht => by rw [e]; exact h t ht
section XM1
variable {G : xk_D} {σ : xk_St} {n : Nat} {P : am_P} {W : Nat → Bool}
theorem k_M_isTile {t : Int32} : xk_M (xm G) 0 y_M_isTile [.int t] σ (xk_pi (fun r τ => ((r = nI 1 ∧ am_has 64 t) ∨ (r = nI 0 ∧ ¬ am_has 64 t)) ∧ σ = τ)) := by
  refine xk_enter (by decide) (Nat.le_of_ble_eq_true rfl) (fun K hE hc => ?_)
  show xk_X K _ _ 0 [(0, _)] []
  refine x_iload_n hE d_M_isTile_0 0 rfl ?_
  refine x_if_lt hE d_M_isTile_1 (fun h => ?_) (fun h => ?_)
  · skip
    refine x_iconst (nI 0) hE d_M_isTile_14 (by decide) ?_
    exact x_zret hc d_M_isTile_15 (by first | exact Or.inl rfl | exact Or.inr rfl | assumption | omega) (⟨Or.inr ⟨rfl, fun z => z.1 h⟩, rfl⟩)
  · skip
    refine x_iload_n hE d_M_isTile_4 0 rfl ?_
    refine x_bipush (nI 64) hE d_M_isTile_5 (by decide) ?_
    refine x_icmp_ge hE d_M_isTile_7 (fun g => ?_) (fun g => ?_)
    · skip
      refine x_iconst (nI 0) hE d_M_isTile_14 (by decide) ?_
      exact x_zret hc d_M_isTile_15 (by first | exact Or.inl rfl | exact Or.inr rfl | assumption | omega) (⟨Or.inr ⟨rfl, fun z => z.2 g⟩, rfl⟩)
    · skip
      refine x_iconst (nI 1) hE d_M_isTile_10 (by decide) ?_
      refine x_goto hE d_M_isTile_11 ?_
      exact x_zret hc d_M_isTile_15 (by first | exact Or.inl rfl | exact Or.inr rfl | assumption | omega) (⟨Or.inl ⟨rfl, h, g⟩, rfl⟩)
theorem k_M_isUnit (hc1 : σ.1 0 1 = nI n) {u : Int32} : xk_M (xm G) 0 y_M_isUnit [.ref (xk_wA (xm G) 0), .int u] σ (xk_pi (fun r τ => ((r = nI 1 ∧ am_has n u) ∨ (r = nI 0 ∧ ¬ am_has n u)) ∧ σ = τ)) := by
  refine xk_enter (by decide) (Nat.le_of_ble_eq_true rfl) (fun K hE hc => ?_)
  show xk_X K _ _ 0 [(0, _), (1, _)] []
  refine x_iload_n hE d_M_isUnit_0 1 rfl ?_
  refine x_if_lt hE d_M_isUnit_1 (fun h => ?_) (fun h => ?_)
  · skip
    refine x_iconst (nI 0) hE d_M_isUnit_16 (by decide) ?_
    exact x_zret hc d_M_isUnit_17 (by first | exact Or.inl rfl | exact Or.inr rfl | assumption | omega) (⟨Or.inr ⟨rfl, fun z => z.1 h⟩, rfl⟩)
  · skip
    refine x_iload_n hE d_M_isUnit_4 1 rfl ?_
    refine x_aload_n hE d_M_isUnit_5 0 rfl ?_
    refine gf_M_89 hc d_M_isUnit_6 hc1 ?_
    refine x_icmp_ge hE d_M_isUnit_9 (fun g => ?_) (fun g => ?_)
    · skip
      refine x_iconst (nI 0) hE d_M_isUnit_16 (by decide) ?_
      exact x_zret hc d_M_isUnit_17 (by first | exact Or.inl rfl | exact Or.inr rfl | assumption | omega) (⟨Or.inr ⟨rfl, fun z => z.2 g⟩, rfl⟩)
    · skip
      refine x_iconst (nI 1) hE d_M_isUnit_12 (by decide) ?_
      refine x_goto hE d_M_isUnit_13 ?_
      exact x_zret hc d_M_isUnit_17 (by first | exact Or.inl rfl | exact Or.inr rfl | assumption | omega) (⟨Or.inl ⟨rfl, h, g⟩, rfl⟩)
theorem k_M_isTaken (hn : n ≤ 8) (hpl : xm_pl n P σ) (hok : am_okP n P) {t : Nat} (ht : t < 64) : xk_M (xm G) 0 y_M_isTaken [.ref (xk_wA (xm G) 0), .int (nI t)] σ (xk_pi (fun r τ => r = (if am_taken P t n = true then nI 1 else nI 0) ∧ σ = τ)) := by
  refine xk_enter (by decide) (Nat.le_of_ble_eq_true rfl) (fun K hE hc => ?_)
  show xk_X K _ _ 0 [(0, _), (1, _)] []
  refine x_iconst (nI 0) hE d_M_isTaken_0 (by decide) ?_
  refine x_istore_n [(2, _), (0, _), (1, _)] hE d_M_isTaken_1 rfl (by decide) rfl ?_
  refine x_iconst (nI 0) hE d_M_isTaken_2 (by decide) ?_
  refine x_istore_n [(3, _), (2, _), (0, _), (1, _)] hE d_M_isTaken_3 rfl (by decide) rfl ?_
  refine x_lv [2, 3, 1, 0] (lv' := [(0, _), (1, _), (2, _), (3, _)]) rfl ?_
  have loop : ∀ (m u : Nat), u + m = n → xk_X K (xk_vw (xm G)) σ 4 [(0, .ref (xk_wA (xm G) 0)), (1, .int (nI t)), (2, .int (nI (if am_taken P t u = true then 1 else 0))), (3, .int (nI u))] [] := by
    intro m
    induction m with
    | zero =>
      intro u hu
      refine x_iload_n hE d_M_isTaken_4 3 rfl ?_
      refine x_aload_n hE d_M_isTaken_5 0 rfl ?_
      refine gf_M_89 hc d_M_isTaken_6 hpl.1 ?_
      first | refine xn_icmp_ge hE d_M_isTaken_9 (fun h => ?_) (fun h => ?_) | refine x_icmp_ge hE d_M_isTaken_9 (fun h => ?_) (fun h => ?_)
      · skip
        refine x_iload_n hE d_M_isTaken_47 2 rfl ?_
        have e : u = n := by omega
        subst e
        refine x_zret hc d_M_isTaken_48 (by split; exact Or.inr rfl; exact Or.inl rfl) ⟨?_, rfl⟩
        split <;> rfl
      · exact absurd h (by omega)
    | succ m ih =>
      intro u hu
      have hat := hpl.2 u (by omega)
      have hx := hok u (by omega)
      have hb := hx.1
      have htl := hx.2.1
      have next : ∀ v : Nat, v = (if am_taken P t (u + 1) = true then 1 else 0) → xk_X K (xk_vw (xm G)) σ 40 [(0, .ref (xk_wA (xm G) 0)), (1, .int (nI t)), (2, .int (nI (if am_taken P t u = true then 1 else 0))), (3, .int (nI u))] [.int (nI v)] := by
        intro v hv
        refine x_istore_n [(2, _), (0, _), (1, _), (3, _)] hE d_M_isTaken_40 rfl (by decide) rfl ?_
        refine x_iinc 3 (nI (_ + 1)) [(3, _), (2, _), (0, _), (1, _)] hE d_M_isTaken_41 rfl (nI_inc _) (by decide) rfl ?_
        refine x_goto hE d_M_isTaken_44 ?_
        refine x_lv [2, 3, 1, 0] (lv' := [(0, _), (1, _), (2, _), (3, _)]) rfl ?_
        rw [hv]
        exact ih (u + 1) (by omega)
      refine x_iload_n hE d_M_isTaken_4 3 rfl ?_
      refine x_aload_n hE d_M_isTaken_5 0 rfl ?_
      refine gf_M_89 hc d_M_isTaken_6 hpl.1 ?_
      first | refine xn_icmp_ge hE d_M_isTaken_9 (fun h => ?_) (fun h => ?_) | refine x_icmp_ge hE d_M_isTaken_9 (fun h => ?_) (fun h => ?_)
      · exact absurd h (by omega)
      · skip
        cases htk : am_taken P t u with
        | true =>
          rw [htk] at next
          refine x_iload_n hE d_M_isTaken_12 2 rfl ?_
          first | refine xn_if_ne hE d_M_isTaken_13 (fun z => ?_) (fun z => ?_) | refine x_if_ne hE d_M_isTaken_13 (fun z => ?_) (fun z => ?_)
          · skip
            refine x_iconst (nI 1) hE d_M_isTaken_35 (by decide) ?_
            refine x_goto hE d_M_isTaken_36 ?_
            exact next 1 (by simp [am_taken, htk])
          · exact absurd z (by decide)
        | false =>
          rw [htk] at next
          refine x_iload_n hE d_M_isTaken_12 2 rfl ?_
          first | refine xn_if_ne hE d_M_isTaken_13 (fun z => ?_) (fun z => ?_) | refine x_if_ne hE d_M_isTaken_13 (fun z => ?_) (fun z => ?_)
          · exact absurd rfl z
          · skip
            refine x_aload_n hE d_M_isTaken_16 0 rfl ?_
            refine gf_M_35 hc d_M_isTaken_17 ?_
            refine x_iload_n hE d_M_isTaken_20 3 rfl ?_
            refine x_iald hc rfl rfl (by omega) (by decide) d_M_isTaken_21 hat.1 ?_
            first | refine xn_if_le hE d_M_isTaken_22 (fun h2 => ?_) (fun h2 => ?_) | refine x_if_le hE d_M_isTaken_22 (fun h2 => ?_) (fun h2 => ?_)
            · skip
              refine x_iconst (nI 0) hE d_M_isTaken_39 (by decide) ?_
              exact next 0 (by simp [am_taken, htk, h2])
            · skip
              refine x_aload_n hE d_M_isTaken_25 0 rfl ?_
              refine gf_M_38 hc d_M_isTaken_26 ?_
              refine x_iload_n hE d_M_isTaken_29 3 rfl ?_
              refine x_iald hc rfl rfl (by omega) (by decide) d_M_isTaken_30 (hat.2.1 (by omega)) ?_
              refine x_iload_n hE d_M_isTaken_31 1 rfl ?_
              first | refine xn_icmp_ne hE d_M_isTaken_32 (fun h3 => ?_) (fun h3 => ?_) | refine x_icmp_ne hE d_M_isTaken_32 (fun h3 => ?_) (fun h3 => ?_)
              · skip
                refine x_iconst (nI 0) hE d_M_isTaken_39 (by decide) ?_
                exact next 0 (by simp [am_taken, htk, h3])
              · skip
                refine x_iconst (nI 1) hE d_M_isTaken_35 (by decide) ?_
                refine x_goto hE d_M_isTaken_36 ?_
                exact next 1 (by simp [am_taken, h3, h2])
  exact loop n 0 (by omega)
theorem k_M_beside {t d : Nat} (ht : t < 64) (hd : d < 4) : xk_M (xm G) 0 y_M_beside [.int (nI t), .int (nI d)] σ (xk_pi (fun r τ => r = xc_o (am_beside t d) ∧ σ = τ)) := by
  refine xk_enter (by decide) (Nat.le_of_ble_eq_true rfl) (fun K hE hc => ?_)
  show xk_X K _ _ 0 [(0, _), (1, _)] []
  refine x_iload_n hE d_M_beside_0 0 rfl ?_
  refine x_bipush (nI 8) hE d_M_beside_1 (by decide) ?_
  first | refine xn_irem hE d_M_beside_3 ?_ | refine x_irem hE d_M_beside_3 (by decide) ?_
  refine x_istore_n [(2, _), (0, _), (1, _)] hE d_M_beside_4 rfl (by decide) rfl ?_
  refine x_iload_n hE d_M_beside_5 1 rfl ?_
  refine x_bipush (nI 8) hE d_M_beside_6 (by decide) ?_
  first | refine xn_idiv hE d_M_beside_8 ?_ | refine x_idiv hE d_M_beside_8 (by decide) ?_
  refine x_istore_n [(3, _), (2, _), (0, _), (1, _)] hE d_M_beside_9 rfl (by decide) rfl ?_
  refine x_iload_n hE d_M_beside_10 3 rfl ?_
  first | refine xn_if_ne hE d_M_beside_11 (fun h0 => ?_) (fun h0 => ?_) | refine x_if_ne hE d_M_beside_11 (fun h0 => ?_) (fun h0 => ?_)
  · skip
    refine x_iload_n hE d_M_beside_27 3 rfl ?_
    refine x_iconst (nI 1) hE d_M_beside_28 (by decide) ?_
    first | refine xn_icmp_ne hE d_M_beside_29 (fun h1 => ?_) (fun h1 => ?_) | refine x_icmp_ne hE d_M_beside_29 (fun h1 => ?_) (fun h1 => ?_)
    · skip
      refine x_iload_n hE d_M_beside_46 3 rfl ?_
      refine x_iconst (nI 2) hE d_M_beside_47 (by decide) ?_
      first | refine xn_icmp_ne hE d_M_beside_48 (fun h2 => ?_) (fun h2 => ?_) | refine x_icmp_ne hE d_M_beside_48 (fun h2 => ?_) (fun h2 => ?_)
      · skip
        have e : d = 3 := by omega
        subst e
        refine x_iload_n hE d_M_beside_66 1 rfl ?_
        first | refine xn_if_le hE d_M_beside_67 (fun h => ?_) (fun h => ?_) | refine x_if_le hE d_M_beside_67 (fun h => ?_) (fun h => ?_)
        · skip
          refine x_iconst (-1) hE d_M_beside_76 (by decide) ?_
          exact x_iret hc d_M_beside_77 (⟨by simp [am_beside, xc_o, show ¬ 0 < t % 8 by omega], rfl⟩)
        · skip
          refine x_iload_n hE d_M_beside_70 2 rfl ?_
          refine x_iconst (nI 1) hE d_M_beside_71 (by decide) ?_
          first | refine xn_isub hE d_M_beside_72 ?_ | refine x_isub hE d_M_beside_72 ?_
          refine x_goto hE d_M_beside_73 ?_
          exact x_iret hc d_M_beside_77 (⟨by simp [am_beside, xc_o, show 0 < t % 8 by omega], rfl⟩)
      · skip
        subst h2
        refine x_iload_n hE d_M_beside_51 0 rfl ?_
        refine x_bipush (nI 7) hE d_M_beside_52 (by decide) ?_
        first | refine xn_icmp_ge hE d_M_beside_54 (fun h => ?_) (fun h => ?_) | refine x_icmp_ge hE d_M_beside_54 (fun h => ?_) (fun h => ?_)
        · skip
          refine x_iconst (-1) hE d_M_beside_64 (by decide) ?_
          exact x_iret hc d_M_beside_65 (⟨by simp [am_beside, xc_o, show ¬ t < 56 by omega], rfl⟩)
        · skip
          refine x_iload_n hE d_M_beside_57 2 rfl ?_
          refine x_bipush (nI 8) hE d_M_beside_58 (by decide) ?_
          first | refine xn_iadd hE d_M_beside_60 ?_ | refine x_iadd hE d_M_beside_60 ?_
          refine x_goto hE d_M_beside_61 ?_
          exact x_iret hc d_M_beside_65 (⟨by simp [am_beside, xc_o, show t < 56 by omega], rfl⟩)
    · skip
      subst h1
      refine x_iload_n hE d_M_beside_32 1 rfl ?_
      refine x_bipush (nI 7) hE d_M_beside_33 (by decide) ?_
      first | refine xn_icmp_ge hE d_M_beside_35 (fun h => ?_) (fun h => ?_) | refine x_icmp_ge hE d_M_beside_35 (fun h => ?_) (fun h => ?_)
      · skip
        refine x_iconst (-1) hE d_M_beside_44 (by decide) ?_
        exact x_iret hc d_M_beside_45 (⟨by simp [am_beside, xc_o, show ¬ t % 8 < 7 by omega], rfl⟩)
      · skip
        refine x_iload_n hE d_M_beside_38 2 rfl ?_
        refine x_iconst (nI 1) hE d_M_beside_39 (by decide) ?_
        first | refine xn_iadd hE d_M_beside_40 ?_ | refine x_iadd hE d_M_beside_40 ?_
        refine x_goto hE d_M_beside_41 ?_
        exact x_iret hc d_M_beside_45 (⟨by simp [am_beside, xc_o, show t % 8 < 7 by omega], rfl⟩)
  · skip
    subst h0
    refine x_iload_n hE d_M_beside_14 0 rfl ?_
    first | refine xn_if_le hE d_M_beside_15 (fun h => ?_) (fun h => ?_) | refine x_if_le hE d_M_beside_15 (fun h => ?_) (fun h => ?_)
    · skip
      refine x_iconst (-1) hE d_M_beside_25 (by decide) ?_
      exact x_iret hc d_M_beside_26 (⟨by simp [am_beside, xc_o, show ¬ 8 ≤ t by omega], rfl⟩)
    · skip
      refine x_iload_n hE d_M_beside_18 2 rfl ?_
      refine x_bipush (nI 8) hE d_M_beside_19 (by decide) ?_
      first | refine xn_isub hE d_M_beside_21 ?_ | refine x_isub hE d_M_beside_21 ?_
      refine x_goto hE d_M_beside_22 ?_
      exact x_iret hc d_M_beside_26 (⟨by simp [am_beside, xc_o, show 8 ≤ t by omega], rfl⟩)
theorem xj_dif1 {a b : Nat} (ha : a < 2 ^ 30) (hb : b < 2 ^ 30) : (0 ≤ nI a - nI b → nI a - nI b = nI (am_dif a b)) ∧ (¬ 0 ≤ nI a - nI b → -(nI a - nI b) = nI (am_dif a b)) := by
  have h := xj_dif ha hb
  constructor
  · intro q; rw [if_pos q] at h; exact h
  · intro q; rw [if_neg q, Int32.zero_sub] at h; exact h
theorem k_M_distance {a b : Nat} (ha : a < 64) (hb : b < 64) : xk_M (xm G) 0 y_M_distance [.int (nI a), .int (nI b)] σ (xk_pi (fun r τ => r = nI (am_dist a b) ∧ σ = τ)) := by
  have d1 := xj_dif1 (a := a % 8) (b := b % 8) (by omega) (by omega)
  have d2 := xj_dif1 (a := a / 8) (b := b / 8) (by omega) (by omega)
  refine xk_enter (by decide) (Nat.le_of_ble_eq_true rfl) (fun K hE hc => ?_)
  show xk_X K _ _ 0 [(0, _), (1, _)] []
  refine x_iload_n hE d_M_distance_0 0 rfl ?_
  refine x_bipush (nI 8) hE d_M_distance_1 (by decide) ?_
  first | refine xn_irem hE d_M_distance_3 ?_ | refine x_irem hE d_M_distance_3 (by decide) ?_
  refine x_iload_n hE d_M_distance_4 1 rfl ?_
  refine x_bipush (nI 8) hE d_M_distance_5 (by decide) ?_
  first | refine xn_irem hE d_M_distance_7 ?_ | refine x_irem hE d_M_distance_7 (by decide) ?_
  refine x_isub hE d_M_distance_8 ?_
  refine x_istore_n [(2, _), (0, _), (1, _)] hE d_M_distance_9 rfl (by decide) rfl ?_
  refine x_iload_n hE d_M_distance_10 1 rfl ?_
  refine x_bipush (nI 8) hE d_M_distance_11 (by decide) ?_
  first | refine xn_idiv hE d_M_distance_13 ?_ | refine x_idiv hE d_M_distance_13 (by decide) ?_
  refine x_iload_n hE d_M_distance_14 2 rfl ?_
  refine x_bipush (nI 8) hE d_M_distance_15 (by decide) ?_
  first | refine xn_idiv hE d_M_distance_17 ?_ | refine x_idiv hE d_M_distance_17 (by decide) ?_
  refine x_isub hE d_M_distance_18 ?_
  refine x_istore_n [(3, _), (2, _), (0, _), (1, _)] hE d_M_distance_19 rfl (by decide) rfl ?_
  have last : ∀ v w : Int32, v = nI (am_dif (a / 8) (b / 8)) → w = nI (am_dif (a % 8) (b % 8)) → xk_X K (xk_vw (xm G)) σ 40 [(3, .int (nI (a / 8) - nI (b / 8))), (2, .int (nI (a % 8) - nI (b % 8))), (0, .int (nI a)), (1, .int (nI b))] [.int v, .int w] := by
    intro v w hv hw
    subst hv
    subst hw
    first | refine xn_iadd hE d_M_distance_40 ?_ | refine x_iadd hE d_M_distance_40 ?_
    exact x_iret hc d_M_distance_41 (⟨rfl, rfl⟩)
  have mid : ∀ w : Int32, w = nI (am_dif (a % 8) (b % 8)) → xk_X K (xk_vw (xm G)) σ 30 [(3, .int (nI (a / 8) - nI (b / 8))), (2, .int (nI (a % 8) - nI (b % 8))), (0, .int (nI a)), (1, .int (nI b))] [.int w] := by
    intro w hw
    refine x_iload_n hE d_M_distance_30 0 rfl ?_
    refine x_if_ge hE d_M_distance_31 (fun h => ?_) (fun h => ?_)
    · skip
      refine x_iload_n hE d_M_distance_39 0 rfl ?_
      exact last _ _ (d2.1 h) hw
    · skip
      refine x_iload_n hE d_M_distance_34 0 rfl ?_
      refine x_ineg hE d_M_distance_35 ?_
      refine x_goto hE d_M_distance_36 ?_
      exact last _ _ (d2.2 h) hw
  refine x_iload_n hE d_M_distance_20 1 rfl ?_
  refine x_if_ge hE d_M_distance_21 (fun h => ?_) (fun h => ?_)
  · skip
    refine x_iload_n hE d_M_distance_29 1 rfl ?_
    exact mid _ (d1.1 h)
  · skip
    refine x_iload_n hE d_M_distance_24 1 rfl ?_
    refine x_ineg hE d_M_distance_25 ?_
    refine x_goto hE d_M_distance_26 ?_
    exact mid _ (d1.2 h)
theorem k_M_stop {u : Nat} (hu : u < 8) : xk_M (xm G) 0 y_M_stop [.ref (xk_wA (xm G) 0), .int (nI u)] σ (xk_pv (fun τ => τ = xk_up (xk_up σ 11 u (nI 0)) 12 u (nI 0))) := by
  refine xk_enter (by decide) (Nat.le_of_ble_eq_true rfl) (fun K hE hc => ?_)
  show xk_X K _ _ 0 [(0, _), (1, _)] []
  refine x_aload_n hE d_M_stop_0 0 rfl ?_
  refine gf_M_41 hc d_M_stop_1 ?_
  refine x_iload_n hE d_M_stop_4 1 rfl ?_
  refine x_iconst (nI 0) hE d_M_stop_5 (by decide) ?_
  refine x_iast hc rfl rfl (by omega) (by decide) d_M_stop_6 ?_
  refine x_aload_n hE d_M_stop_7 0 rfl ?_
  refine gf_M_44 hc d_M_stop_8 ?_
  refine x_iload_n hE d_M_stop_11 1 rfl ?_
  refine x_iconst (nI 0) hE d_M_stop_12 (by decide) ?_
  refine x_iast hc rfl rfl (by omega) (by decide) d_M_stop_13 ?_
  exact x_ret hc d_M_stop_14 (rfl)
theorem xm_drop_at {u : Nat} {x : am_U} (h : xm_at σ u x) : xm_at (xk_up (xk_up σ 11 u (nI 0)) 12 u (nI 0)) u (am_drop x) ∧ xm_one u σ (xk_up (xk_up σ 11 u (nI 0)) 12 u (nI 0)) := by
  obtain ⟨h1, h2, h3, h4, h5, h6, h7, h8⟩ := h
  refine ⟨⟨?_, ?_, ?_, ?_, ?_, ?_, h7, fun i hi => ?_⟩, (xm_one.up (by decide) (by decide) (by decide)).tr (xm_one.up (by decide) (by decide) (by decide))⟩
  all_goals simp (disch := omega) only [xk_up_s, xk_up_o]
  · exact h1
  · exact h2
  · rfl
  · rfl
  · exact h5
  · exact h6
  · exact h8 i hi
theorem k_M_take {u m : Nat} (hu : u < 8) (hm : m ≤ 64) : xk_M (xm G) 0 y_M_take [.ref (xk_wA (xm G) 0), .int (nI u), .int (nI m)] σ (xk_pv (fun τ => (∀ i, i < m → τ.1 14 (64 * u + i) = σ.1 25 i) ∧ τ.1 15 u = nI m ∧ (∀ k, k ≠ 14 → k ≠ 15 → τ.1 k = σ.1 k) ∧ xm_one u σ τ)) := by
  refine xk_enter (by decide) (Nat.le_of_ble_eq_true rfl) (fun K hE hc => ?_)
  show xk_X K _ _ 0 [(0, _), (1, _), (2, _)] []
  refine x_iconst (nI 0) hE d_M_take_0 (by decide) ?_
  refine x_istore_n [(3, _), (0, _), (1, _), (2, _)] hE d_M_take_1 rfl (by decide) rfl ?_
  refine x_lv [1, 2, 3, 0] (lv' := [(0, _), (1, _), (2, _), (3, _)]) rfl ?_
  have loop : ∀ (q i : Nat) (τ : xk_St), i + q = m → (∀ j, j < i → τ.1 14 (64 * u + j) = σ.1 25 j) → (∀ j, j < 64 * u ∨ 64 * u + 64 ≤ j → τ.1 14 j = σ.1 14 j) → (∀ k, k ≠ 14 → τ.1 k = σ.1 k) → τ.2 = σ.2 → xk_X K (xk_vw (xm G)) τ 2 [(0, .ref (xk_wA (xm G) 0)), (1, .int (nI u)), (2, .int (nI m)), (3, .int (nI i))] [] := by
    intro q
    induction q with
    | zero =>
      intro i τ hi h1 h2 h3 h4
      refine x_iload_n hE d_M_take_2 3 rfl ?_
      refine x_iload_n hE d_M_take_3 2 rfl ?_
      first | refine xn_icmp_ge hE d_M_take_4 (fun h => ?_) (fun h => ?_) | refine x_icmp_ge hE d_M_take_4 (fun h => ?_) (fun h => ?_)
      · skip
        refine x_aload_n hE d_M_take_30 0 rfl ?_
        refine gf_M_53 hc d_M_take_31 ?_
        refine x_iload_n hE d_M_take_34 1 rfl ?_
        refine x_iload_n hE d_M_take_35 2 rfl ?_
        refine x_iast hc rfl rfl (by omega) (by decide) d_M_take_36 ?_
        refine x_ret hc d_M_take_37 ⟨fun j hj => ?_, ?_, fun k k1 k2 => ?_, h4, fun k hk => ?_, fun k v hv k1 k2 k3 => ?_, fun j hj => ?_⟩
        · rw [xk_up_o (by decide)]; exact h1 j (by omega)
        · rw [xk_up_s, if_pos rfl]
        · rw [xk_up_o k2]; exact h3 k k1
        · rw [xk_up_o (by omega)]; exact h3 k (by omega)
        · by_cases e : k = 15
          · subst e; rw [xk_up_s, if_neg hv, h3 15 (by decide)]
          · rw [xk_up_o e, h3 k k1]
        · rw [xk_up_o (by decide)]; exact h2 j hj
      · exact absurd h (by omega)
    | succ q ih =>
      intro i τ hi h1 h2 h3 h4
      refine x_iload_n hE d_M_take_2 3 rfl ?_
      refine x_iload_n hE d_M_take_3 2 rfl ?_
      first | refine xn_icmp_ge hE d_M_take_4 (fun h => ?_) (fun h => ?_) | refine x_icmp_ge hE d_M_take_4 (fun h => ?_) (fun h => ?_)
      · exact absurd h (by omega)
      · skip
        refine x_aload_n hE d_M_take_7 0 rfl ?_
        refine gf_M_50 hc d_M_take_8 ?_
        refine x_bipush (nI 64) hE d_M_take_11 (by decide) ?_
        refine x_iload_n hE d_M_take_13 1 rfl ?_
        first | refine xn_imul hE d_M_take_14 ?_ | refine x_imul hE d_M_take_14 ?_
        refine x_iload_n hE d_M_take_15 3 rfl ?_
        first | refine xn_iadd hE d_M_take_16 ?_ | refine x_iadd hE d_M_take_16 ?_
        refine x_aload_n hE d_M_take_17 0 rfl ?_
        refine gf_M_83 hc d_M_take_18 ?_
        refine x_iload_n hE d_M_take_21 3 rfl ?_
        refine x_iald hc rfl rfl (by omega) (by decide) d_M_take_22 (show _ = σ.1 25 i by rw [h3 25 (by decide)]) ?_
        refine x_iast hc rfl rfl (by omega) (by decide) d_M_take_23 ?_
        refine x_iinc 3 (nI (_ + 1)) [(3, _), (0, _), (1, _), (2, _)] hE d_M_take_24 rfl (nI_inc _) (by decide) rfl ?_
        refine x_goto hE d_M_take_27 ?_
        refine x_lv [1, 2, 3, 0] (lv' := [(0, _), (1, _), (2, _), (3, _)]) rfl ?_
        refine ih (i + 1) _ (by omega) (fun j hj => ?_) (fun j hj => ?_) (fun k hk => by rw [xk_up_o hk]; exact h3 k hk) h4
        · rw [xk_up_s]
          by_cases e : j = i
          · subst e; rw [if_pos rfl]
          · rw [if_neg (by omega)]; exact h1 j (by omega)
        · rw [xk_up_s, if_neg (by omega)]; exact h2 j hj
  exact loop m 0 σ (by omega) (fun j hj => absurd hj (Nat.not_lt_zero _)) (fun _ _ => rfl) (fun _ _ => rfl) rfl
end XM1
end
section
/-! THE REFERENCE: its search -/
def xm_F (σ τ : xk_St) : Prop := τ.2 = σ.2 ∧ ∀ k, k ≠ 23 → k ≠ 24 → k ≠ 25 → τ.1 k = σ.1 k
def xm_I (a : Nat) (σ : xk_St) (s : am_B) (τ : xk_St) : Prop := am_inv a s ∧ (∀ t, t < 64 → τ.1 24 t = xc_o (s.2.2.1 t)) ∧ (∀ i, i < s.2.1 → τ.1 23 i = nI (s.1 i)) ∧ xm_F σ τ
theorem xm_I_new {a x t : Nat} {σ τ : xk_St} {s : am_B} (h : xm_I a σ s τ) (ht : t < 64) (hn : s.2.2.1 t = none) (hx : s.2.2.1 x ≠ none) :
    xm_I a σ (am_set s.1 s.2.1 t, s.2.1 + 1, am_set s.2.2.1 t (some x), am_set s.2.2.2 t (s.2.2.2 x + 1)) (xk_up (xk_up τ 24 t (nI x)) 23 s.2.1 (nI t)) := by
  obtain ⟨h1, h2, h3, h4, h5⟩ := h
  refine ⟨am_inv_new h1 ht hn hx, fun i hi => ?_, fun i hi => ?_, h4, fun k k1 k2 k3 => ?_⟩
  · rw [xk_up_o (by decide), xk_up_s]
    show _ = xc_o (am_set s.2.2.1 t (some x) i)
    by_cases e : i = t
    · subst e; rw [if_pos rfl, am_set_s]; rfl
    · rw [if_neg e, am_set_n e]; exact h2 i hi
  · have hi : i < s.2.1 + 1 := hi
    rw [xk_up_s, xk_up_o (by decide)]
    show _ = nI (am_set s.1 s.2.1 t i)
    by_cases e : i = s.2.1
    · subst e; rw [if_pos rfl, am_set_s]
    · rw [if_neg e, am_set_n e]; exact h3 i (by omega)
  · rw [xk_up_o k1, xk_up_o k2]; exact h5 k k1 k2 k3
section XM2
variable {G : xk_D} {σ : xk_St} {n : Nat} {P : am_P} {W : Nat → Bool}
set_option maxHeartbeats 1000000 in
theorem k_M_find (hn : n ≤ 8) (hpl : xm_pl n P σ) (hok : am_okP n P) (hW : xm_W W σ) {a b av : Nat} (ha : a < 64) (hb : b < 64) (hav : av < 2) {Av : Nat → Bool} (hAv : ∀ t, Av t = (decide (av = 1) && am_taken P t n)) : xk_M (xm G) 1 y_M_find [.ref (xk_wA (xm G) 0), .int (nI a), .int (nI b), .int (nI av)] σ (xk_pi (fun r τ => r = nI (am_find (am_free W Av b) a b).length ∧ (∀ i (h : i < (am_find (am_free W Av b) a b).length), τ.1 25 i = nI ((am_find (am_free W Av b) a b)[i])) ∧ xm_F σ τ)) := by
  have hend := am_inv_end (free := am_free W Av b) (b := b) ha
  have hmetE := am_inv_met hend
  refine xk_enter (by decide) (Nat.le_of_ble_eq_true rfl) (fun K hE hc => ?_)
  show xk_X K _ _ 0 [(0, _), (1, _), (2, _), (3, _)] []
  refine x_iconst (nI 0) hE d_M_find_0 (by decide) ?_
  refine x_istore [(4, _), (0, _), (1, _), (2, _), (3, _)] hE d_M_find_1 (by decide) rfl ?_
  refine x_lv [1, 2, 3, 4, 0] (lv' := [(0, _), (1, _), (2, _), (3, _), (4, _)]) rfl ?_
  have wr : ∀ (m t : Nat) (suf : List Nat) (τ : xk_St) (v4 : Int32), (am_end (am_free W Av b) a b).2.2.1 t ≠ none → (am_end (am_free W Av b) a b).2.2.2 t = m → am_find (am_free W Av b) a b = am_chain (am_end (am_free W Av b) a b).2.2.1 m t ++ suf → (∀ q, q < 64 → τ.1 24 q = xc_o ((am_end (am_free W Av b) a b).2.2.1 q)) → xm_F σ τ → (∀ i (h : i < suf.length), τ.1 25 (m + i) = nI (suf[i])) → (am_find (am_free W Av b) a b).length < 64 →
      xk_X K (xk_vw (xm G)) τ 210 [(0, .ref (xk_wA (xm G) 0)), (1, .int (nI a)), (2, .int (nI b)), (3, .int (nI av)), (4, .int v4), (5, .int (nI (am_find (am_free W Av b) a b).length)), (6, .int (nI m)), (7, .int (nI t))] [] := by
    intro m
    induction m with
    | zero =>
      intro t suf τ v4 ht hm hch h24 hF hw hlen
      obtain ⟨x, hx⟩ := Option.ne_none_iff_exists'.mp ht
      obtain ⟨g1, g2, g3, g4, g5⟩ := hend.2.2.2 t x hx
      have hta : t = a := by
        rcases g5 with ⟨g6, -⟩ | ⟨-, g6⟩
        · exact g6
        · omega
      refine x_iload hE d_M_find_210 7 rfl ?_
      refine x_iload_n hE d_M_find_212 1 rfl ?_
      first | refine xn_icmp_eq hE d_M_find_213 (fun h => ?_) (fun h => ?_) | refine x_icmp_eq hE d_M_find_213 (fun h => ?_) (fun h => ?_)
      · skip
        refine x_iload hE d_M_find_240 5 rfl ?_
        refine x_iret hc d_M_find_242 ⟨rfl, fun i hi => ?_, hF⟩
        have hi2 : i < suf.length := by
          rw [hch] at hi
          simpa [am_chain] using hi
        have h3 := hw i hi2
        rw [Nat.zero_add] at h3
        rw [h3]
        congr 1
        simp [hch, am_chain]
      · exact absurd hta h
    | succ m ih =>
      intro t suf τ v4 ht hm hch h24 hF hw hlen
      obtain ⟨x, hx⟩ := Option.ne_none_iff_exists'.mp ht
      obtain ⟨g1, g2, g3, g4, g5⟩ := hend.2.2.2 t x hx
      have hta : t ≠ a ∧ (am_end (am_free W Av b) a b).2.2.2 x = m := by
        rcases g5 with ⟨-, -, g6⟩ | ⟨g6, g7⟩
        · omega
        · exact ⟨g6, by omega⟩
      refine x_iload hE d_M_find_210 7 rfl ?_
      refine x_iload_n hE d_M_find_212 1 rfl ?_
      first | refine xn_icmp_eq hE d_M_find_213 (fun h => ?_) (fun h => ?_) | refine x_icmp_eq hE d_M_find_213 (fun h => ?_) (fun h => ?_)
      · exact absurd h hta.1
      · skip
        refine x_iinc 6 (nI (_ - 1)) [(6, _), (0, _), (1, _), (2, _), (3, _), (4, _), (5, _), (7, _)] hE d_M_find_216 rfl (nI_dec _ (by omega)) (by decide) rfl ?_
        refine x_aload_n hE d_M_find_219 1 rfl ?_
        refine gf_M_83 hc d_M_find_220 ?_
        refine x_iload hE d_M_find_223 0 rfl ?_
        refine x_iload hE d_M_find_225 7 rfl ?_
        refine x_iast hc rfl rfl (by omega) (by decide) d_M_find_227 ?_
        refine x_aload_n hE d_M_find_228 1 rfl ?_
        refine gf_M_80 hc d_M_find_229 ?_
        refine x_iload hE d_M_find_232 7 rfl ?_
        refine x_iald hc rfl rfl (by omega) (by decide) d_M_find_234 (show _ = nI x by rw [xk_up_o (by decide), h24 t g1, hx]; rfl) ?_
        refine x_istore [(7, _), (6, _), (0, _), (1, _), (2, _), (3, _), (4, _), (5, _)] hE d_M_find_235 (by decide) rfl ?_
        refine x_goto hE d_M_find_237 ?_
        refine x_lv [2, 3, 4, 5, 6, 7, 1, 0] (lv' := [(0, _), (1, _), (2, _), (3, _), (4, _), (5, _), (6, _), (7, _)]) rfl ?_
        refine ih x (t :: suf) _ v4 g3 hta.2 ?_ (fun q hq => by rw [xk_up_o (by decide)]; exact h24 q hq) ⟨hF.1, fun k k1 k2 k3 => by rw [xk_up_o k3]; exact hF.2 k k1 k2 k3⟩ (fun i hi => ?_) hlen
        · rw [hch, am_chain, hx]
          simp
        · rw [xk_up_s]
          cases i with
          | zero => simp
          | succ i =>
            rw [if_neg (by omega)]
            have h3 := hw i (by simpa using hi)
            rw [show m + 1 + i = m + (i + 1) by omega] at h3
            rw [h3]
            rfl
  have cnt : ∀ (m t c : Nat) (τ : xk_St) (v4 : Int32), (am_end (am_free W Av b) a b).2.2.1 t ≠ none → (am_end (am_free W Av b) a b).2.2.2 t = m → c + m = (am_end (am_free W Av b) a b).2.2.2 b → (am_end (am_free W Av b) a b).2.2.1 b ≠ none → (∀ q, q < 64 → τ.1 24 q = xc_o ((am_end (am_free W Av b) a b).2.2.1 q)) → xm_F σ τ →
      xk_X K (xk_vw (xm G)) τ 182 [(0, .ref (xk_wA (xm G) 0)), (1, .int (nI a)), (2, .int (nI b)), (3, .int (nI av)), (4, .int v4), (5, .int (nI c)), (6, .int (nI t))] [] := by
    intro m
    induction m with
    | zero =>
      intro t c τ v4 ht hm hcm hfb h24 hF
      obtain ⟨x, hx⟩ := Option.ne_none_iff_exists'.mp ht
      obtain ⟨g1, g2, g3, g4, g5⟩ := hend.2.2.2 t x hx
      have hta : t = a := by
        rcases g5 with ⟨g6, -⟩ | ⟨-, g6⟩
        · exact g6
        · omega
      refine x_iload hE d_M_find_182 6 rfl ?_
      refine x_iload_n hE d_M_find_184 1 rfl ?_
      first | refine xn_icmp_eq hE d_M_find_185 (fun h => ?_) (fun h => ?_) | refine x_icmp_eq hE d_M_find_185 (fun h => ?_) (fun h => ?_)
      · skip
        have hfe : am_find (am_free W Av b) a b = am_chain (am_end (am_free W Av b) a b).2.2.1 ((am_end (am_free W Av b) a b).2.2.2 b) b := by unfold am_find; rw [if_neg hfb]
        have hl : (am_find (am_free W Av b) a b).length = c := by rw [hfe, am_chain_len]; omega
        obtain ⟨y, hy⟩ := Option.ne_none_iff_exists'.mp hfb
        have hdb := (hend.2.2.2 b y hy).2.2.2.1
        refine x_iload hE d_M_find_203 5 rfl ?_
        refine x_istore [(6, _), (0, _), (1, _), (2, _), (3, _), (4, _), (5, _)] hE d_M_find_205 (by decide) rfl ?_
        refine x_iload_n hE d_M_find_207 3 rfl ?_
        refine x_istore [(7, _), (6, _), (0, _), (1, _), (2, _), (3, _), (4, _), (5, _)] hE d_M_find_208 (by decide) rfl ?_
        refine x_lv [2, 3, 4, 5, 6, 7, 1, 0] (lv' := [(0, _), (1, _), (2, _), (3, _), (4, _), (5, _), (6, _), (7, _)]) rfl ?_
        rw [← hl]
        exact wr _ b [] τ v4 hfb (by rw [hl]; omega) (by rw [hl, show c = (am_end (am_free W Av b) a b).2.2.2 b by omega, hfe]; simp) h24 hF (fun i hi => absurd hi (Nat.not_lt_zero _)) (by omega)
      · exact absurd hta h
    | succ m ih =>
      intro t c τ v4 ht hm hcm hfb h24 hF
      obtain ⟨x, hx⟩ := Option.ne_none_iff_exists'.mp ht
      obtain ⟨g1, g2, g3, g4, g5⟩ := hend.2.2.2 t x hx
      have hta : t ≠ a ∧ (am_end (am_free W Av b) a b).2.2.2 x = m := by
        rcases g5 with ⟨-, -, g6⟩ | ⟨g6, g7⟩
        · omega
        · exact ⟨g6, by omega⟩
      refine x_iload hE d_M_find_182 6 rfl ?_
      refine x_iload_n hE d_M_find_184 1 rfl ?_
      first | refine xn_icmp_eq hE d_M_find_185 (fun h => ?_) (fun h => ?_) | refine x_icmp_eq hE d_M_find_185 (fun h => ?_) (fun h => ?_)
      · exact absurd h hta.1
      · skip
        refine x_iinc 5 (nI (_ + 1)) [(5, _), (0, _), (1, _), (2, _), (3, _), (4, _), (6, _)] hE d_M_find_188 rfl (nI_inc _) (by decide) rfl ?_
        refine x_aload_n hE d_M_find_191 1 rfl ?_
        refine gf_M_80 hc d_M_find_192 ?_
        refine x_iload hE d_M_find_195 6 rfl ?_
        refine x_iald hc rfl rfl (by omega) (by decide) d_M_find_197 (show _ = nI x by rw [h24 t g1, hx]; rfl) ?_
        refine x_istore [(6, _), (5, _), (0, _), (1, _), (2, _), (3, _), (4, _)] hE d_M_find_198 (by decide) rfl ?_
        refine x_goto hE d_M_find_200 ?_
        refine x_lv [2, 3, 4, 5, 6, 1, 0] (lv' := [(0, _), (1, _), (2, _), (3, _), (4, _), (5, _), (6, _)]) rfl ?_
        exact ih x (c + 1) τ v4 g3 hta.2 (by omega) hfb h24 hF
  have last : ∀ (s : am_B) (τ : xk_St) (v5 : Int32), xm_I a σ s τ → s = am_end (am_free W Av b) a b → xk_X K (xk_vw (xm G)) τ 165 [(0, .ref (xk_wA (xm G) 0)), (1, .int (nI a)), (2, .int (nI b)), (3, .int (nI av)), (4, .int (nI s.2.1)), (5, .int v5)] [] := by
    intro s τ v5 hI hs
    subst hs
    refine x_aload_n hE d_M_find_165 0 rfl ?_
    refine gf_M_80 hc d_M_find_166 ?_
    refine x_iload_n hE d_M_find_169 2 rfl ?_
    refine x_iald hc rfl rfl (by omega) (by decide) d_M_find_170 (hI.2.1 b hb) ?_
    cases hfb : (am_end (am_free W Av b) a b).2.2.1 b with
    | none =>
      have e : am_find (am_free W Av b) a b = [] := by unfold am_find; rw [if_pos hfb]
      refine x_if_ge hE d_M_find_171 (fun z => ?_) (fun z => ?_)
      · exact absurd z (by decide)
      · skip
        refine x_iconst (nI 0) hE d_M_find_174 (by decide) ?_
        exact x_iret hc d_M_find_175 (⟨by rw [e]; rfl, fun i hi => by rw [e] at hi; exact absurd hi (Nat.not_lt_zero _), hI.2.2.2⟩)
    | some y =>
      have hfb2 : (am_end (am_free W Av b) a b).2.2.1 b ≠ none := by rw [hfb]; simp
      have hy := (hend.2.2.2 b y hfb).2.1
      show xk_X K _ τ 171 _ [.int (nI y)]
      first | refine xn_if_ge hE d_M_find_171 (fun z => ?_) (fun z => ?_) | refine x_if_ge hE d_M_find_171 (fun z => ?_) (fun z => ?_)
      · skip
        refine x_iconst (nI 0) hE d_M_find_176 (by decide) ?_
        refine x_istore [(5, _), (0, _), (1, _), (2, _), (3, _), (4, _)] hE d_M_find_177 (by decide) rfl ?_
        refine x_iload_n hE d_M_find_179 3 rfl ?_
        refine x_istore [(6, _), (5, _), (0, _), (1, _), (2, _), (3, _), (4, _)] hE d_M_find_180 (by decide) rfl ?_
        refine x_lv [2, 3, 4, 5, 6, 1, 0] (lv' := [(0, _), (1, _), (2, _), (3, _), (4, _), (5, _), (6, _)]) rfl ?_
        exact cnt _ b 0 τ _ hfb2 rfl (by omega) hfb2 hI.2.1 hI.2.2.2
      · exact absurd z not_false
  have inner : ∀ (m d : Nat) (s s0 : am_B) (x k : Nat) (τ : xk_St), d + m = 4 → x < 64 → s = am_exp (am_free W Av b) x s0 d → s.2.2.1 x ≠ none → xm_I a σ s τ → k < s.2.1 → s.1 k = x →
      (∀ (τ : xk_St), xm_I a σ (am_exp (am_free W Av b) x s0 4) τ → xk_X K (xk_vw (xm G)) τ 44 [(0, .ref (xk_wA (xm G) 0)), (1, .int (nI a)), (2, .int (nI b)), (3, .int (nI av)), (4, .int (nI (am_exp (am_free W Av b) x s0 4).2.1)), (5, .int (nI (k + 1)))] []) →
      xk_X K (xk_vw (xm G)) τ 63 [(0, .ref (xk_wA (xm G) 0)), (1, .int (nI a)), (2, .int (nI b)), (3, .int (nI av)), (4, .int (nI s.2.1)), (5, .int (nI k)), (6, .int (nI d))] [] := by
    intro m
    induction m with
    | zero =>
      intro d s s0 x k τ hd hx hs hne hI hk hq next
      refine x_iload hE d_M_find_63 6 rfl ?_
      refine x_iconst (nI 4) hE d_M_find_65 (by decide) ?_
      first | refine xn_icmp_ge hE d_M_find_66 (fun h => ?_) (fun h => ?_) | refine x_icmp_ge hE d_M_find_66 (fun h => ?_) (fun h => ?_)
      · skip
        refine x_iinc 5 (nI (_ + 1)) [(5, _), (0, _), (1, _), (2, _), (3, _), (4, _), (6, _)] hE d_M_find_159 rfl (nI_inc _) (by decide) rfl ?_
        refine x_goto hE d_M_find_162 ?_
        refine x_lv [1, 2, 3, 4, 5, 0] (lv' := [(0, _), (1, _), (2, _), (3, _), (4, _), (5, _)]) rfl ?_
        have hd4 : d = 4 := by omega
        subst hd4
        subst hs
        exact next τ hI
      · exact absurd h (by omega)
    | succ m ih =>
      intro d s s0 x k τ hd hx hs hne hI hk hq next
      have hmet := am_inv_met hI.1
      have hplt : xm_pl n P τ := hpl.mv (fun k hk => hI.2.2.2.2 k (by omega) (by omega) (by omega))
      have hWt : xm_W W τ := hW.mv (hI.2.2.2.2 1 (by omega) (by omega) (by omega))
      have skip : am_try (am_free W Av b) x d s = s → ∀ z : Int32, xk_X K (xk_vw (xm G)) τ 153 [(7, .int z), (0, .ref (xk_wA (xm G) 0)), (1, .int (nI a)), (2, .int (nI b)), (3, .int (nI av)), (4, .int (nI s.2.1)), (5, .int (nI k)), (6, .int (nI d))] [] := by
        intro ht z
        refine x_iinc 7 (nI (_ + 1)) [(6, _), (7, _), (0, _), (1, _), (2, _), (3, _), (4, _), (5, _)] hE d_M_find_153 rfl (nI_inc _) (by decide) rfl ?_
        refine x_goto hE d_M_find_156 ?_
        refine x_lv [2, 3, 4, 5, 6, 7, 0] (lv' := [(0, _), (1, _), (2, _), (3, _), (4, _), (5, _), (6, _)]) rfl ?_
        exact ih (d + 1) s s0 x k τ (by omega) hx (by rw [am_exp, ← hs, ht]) hne hI hk hq next
      refine x_iload hE d_M_find_63 6 rfl ?_
      refine x_iconst (nI 4) hE d_M_find_65 (by decide) ?_
      first | refine xn_icmp_ge hE d_M_find_66 (fun h => ?_) (fun h => ?_) | refine x_icmp_ge hE d_M_find_66 (fun h => ?_) (fun h => ?_)
      · exact absurd h (by omega)
      · skip
        refine x_aload_n hE d_M_find_69 0 rfl ?_
        refine gf_M_77 hc d_M_find_70 ?_
        refine x_iload hE d_M_find_73 5 rfl ?_
        refine x_iald hc rfl rfl (by omega) (by decide) d_M_find_75 (show _ = nI x by rw [hI.2.2.1 k hk, hq]) ?_
        refine x_iload hE d_M_find_76 6 rfl ?_
        refine ca_M_113 hc d_M_find_78 (k_M_beside hx (show d < 4 by omega)) (fun r τ hq => ?_)
        obtain ⟨rfl, rfl⟩ := hq
        refine x_istore [(7, _), (0, _), (1, _), (2, _), (3, _), (4, _), (5, _), (6, _)] hE d_M_find_81 (by decide) rfl ?_
        refine x_iload hE d_M_find_83 0 rfl ?_
        cases hbs : am_beside x d with
        | none =>
          refine x_if_lt hE d_M_find_85 (fun h2 => ?_) (fun h2 => ?_)
          · exact skip (by unfold am_try; rw [hbs]) _
          · exact absurd (by decide) h2
        | some t =>
          have ht := am_beside_lt hx hbs
          have new : s.2.2.1 t = none → am_free W Av b t = true → xk_X K (xk_vw (xm G)) τ 127 [(7, .int (nI t)), (0, .ref (xk_wA (xm G) 0)), (1, .int (nI a)), (2, .int (nI b)), (3, .int (nI av)), (4, .int (nI s.2.1)), (5, .int (nI k)), (6, .int (nI d))] [] := by
            intro hfr hfree
            have hroom := am_inv_room hI.1 ht hfr
            have htry : am_try (am_free W Av b) x d s = (am_set s.1 s.2.1 t, s.2.1 + 1, am_set s.2.2.1 t (some x), am_set s.2.2.2 t (s.2.2.2 x + 1)) := by
              unfold am_try
              rw [hbs]
              simp only []
              rw [if_pos ⟨hfr, hfree⟩]
            have hI2 := xm_I_new hI ht hfr hne
            refine x_aload_n hE d_M_find_127 1 rfl ?_
            refine gf_M_80 hc d_M_find_128 ?_
            refine x_iload hE d_M_find_131 0 rfl ?_
            refine x_aload_n hE d_M_find_133 1 rfl ?_
            refine gf_M_77 hc d_M_find_134 ?_
            refine x_iload hE d_M_find_137 6 rfl ?_
            refine x_iald hc rfl rfl (by omega) (by decide) d_M_find_139 (show _ = nI x by rw [hI.2.2.1 k hk, hq]) ?_
            refine x_iast hc rfl rfl (by omega) (by decide) d_M_find_140 ?_
            refine x_aload_n hE d_M_find_141 1 rfl ?_
            refine gf_M_77 hc d_M_find_142 ?_
            refine x_iload hE d_M_find_145 5 rfl ?_
            refine x_iload hE d_M_find_147 0 rfl ?_
            refine x_iast hc rfl rfl (by omega) (by decide) d_M_find_149 ?_
            refine x_iinc 5 (nI (_ + 1)) [(4, _), (7, _), (0, _), (1, _), (2, _), (3, _), (5, _), (6, _)] hE d_M_find_150 rfl (nI_inc _) (by decide) rfl ?_
            refine x_iinc 7 (nI (_ + 1)) [(6, _), (4, _), (7, _), (0, _), (1, _), (2, _), (3, _), (5, _)] hE d_M_find_153 rfl (nI_inc _) (by decide) rfl ?_
            refine x_goto hE d_M_find_156 ?_
            refine x_lv [3, 4, 5, 6, 1, 7, 0] (lv' := [(0, _), (1, _), (2, _), (3, _), (4, _), (5, _), (6, _)]) rfl ?_
            refine ih (d + 1) _ s0 x k _ (by omega) hx (by rw [am_exp, ← hs, htry]) ?_ hI2 (by show k < s.2.1 + 1; omega) ?_ next
            · show am_set s.2.2.1 t (some x) x ≠ none
              rw [am_set_n (fun e => hne (by rw [e]; exact hfr))]
              exact hne
            · show am_set s.1 s.2.1 t k = x
              rw [am_set_n (by omega)]
              exact hq
          have skip2 : (s.2.2.1 t = none → am_free W Av b t = false) → xk_X K (xk_vw (xm G)) τ 153 [(7, .int (nI t)), (0, .ref (xk_wA (xm G) 0)), (1, .int (nI a)), (2, .int (nI b)), (3, .int (nI av)), (4, .int (nI s.2.1)), (5, .int (nI k)), (6, .int (nI d))] [] := by
            intro hz
            refine skip ?_ _
            unfold am_try
            rw [hbs]
            simp only []
            rw [if_neg]
            intro z
            rw [hz z.1] at z
            cases z.2
          show xk_X K _ τ 85 [(7, .int (nI t)), (0, _), (1, _), (2, _), (3, _), (4, _), (5, _), (6, _)] [.int (nI t)]
          first | refine xn_if_lt hE d_M_find_85 (fun h2 => ?_) (fun h2 => ?_) | refine x_if_lt hE d_M_find_85 (fun h2 => ?_) (fun h2 => ?_)
          · exact absurd h2 not_false
          · skip
            refine x_aload_n hE d_M_find_88 1 rfl ?_
            refine gf_M_80 hc d_M_find_89 ?_
            refine x_iload hE d_M_find_92 0 rfl ?_
            refine x_iald hc rfl rfl (by omega) (by decide) d_M_find_94 (hI.2.1 t ht) ?_
            cases hfr : s.2.2.1 t with
            | some y =>
              have hy := (hI.1.2.2.2 t y hfr).2.1
              show xk_X K _ τ 95 _ [.int (nI y)]
              first | refine xn_if_ge hE d_M_find_95 (fun h3 => ?_) (fun h3 => ?_) | refine x_if_ge hE d_M_find_95 (fun h3 => ?_) (fun h3 => ?_)
              · exact skip2 (fun q => by rw [hfr] at q; cases q)
              · exact absurd h3 not_false
            | none =>
              refine x_if_ge hE d_M_find_95 (fun h3 => ?_) (fun h3 => ?_)
              · exact absurd h3 (by decide)
              · skip
                refine x_aload_n hE d_M_find_98 1 rfl ?_
                refine gf_M_7 hc d_M_find_99 ?_
                refine x_iload hE d_M_find_102 0 rfl ?_
                refine x_zald hc rfl rfl (by omega) (by decide) d_M_find_104 (hWt t ht) ?_
                cases hw : W t with
                | true =>
                  first | refine xn_if_ne hE d_M_find_105 (fun h4 => ?_) (fun h4 => ?_) | refine x_if_ne hE d_M_find_105 (fun h4 => ?_) (fun h4 => ?_)
                  · exact skip2 (fun _ => by simp [am_free, hw])
                  · exact absurd h4 (by decide)
                | false =>
                  first | refine xn_if_ne hE d_M_find_105 (fun h4 => ?_) (fun h4 => ?_) | refine x_if_ne hE d_M_find_105 (fun h4 => ?_) (fun h4 => ?_)
                  · exact absurd rfl h4
                  · skip
                    refine x_iload hE d_M_find_108 0 rfl ?_
                    refine x_iload_n hE d_M_find_110 3 rfl ?_
                    first | refine xn_icmp_eq hE d_M_find_111 (fun h5 => ?_) (fun h5 => ?_) | refine x_icmp_eq hE d_M_find_111 (fun h5 => ?_) (fun h5 => ?_)
                    · exact new hfr (by unfold am_free; rw [hw]; simp [h5])
                    · skip
                      refine x_iload_n hE d_M_find_114 4 rfl ?_
                      first | refine xn_if_eq hE d_M_find_115 (fun h6 => ?_) (fun h6 => ?_) | refine x_if_eq hE d_M_find_115 (fun h6 => ?_) (fun h6 => ?_)
                      · exact new hfr (by simp [am_free, hw, hAv, h6])
                      · skip
                        refine x_aload_n hE d_M_find_118 1 rfl ?_
                        refine x_iload hE d_M_find_119 0 rfl ?_
                        refine ca_M_101 hc d_M_find_121 (k_M_isTaken hn hplt hok ht) (fun r τ hq => ?_)
                        obtain ⟨rfl, rfl⟩ := hq
                        have hav1 : av = 1 := by omega
                        cases htk : am_taken P t n with
                        | true =>
                          first | refine xn_if_ne hE d_M_find_124 (fun h7 => ?_) (fun h7 => ?_) | refine x_if_ne hE d_M_find_124 (fun h7 => ?_) (fun h7 => ?_)
                          · exact skip2 (fun _ => by simp [am_free, hAv, hav1, htk, h5])
                          · exact absurd h7 (by decide)
                        | false =>
                          first | refine xn_if_ne hE d_M_find_124 (fun h7 => ?_) (fun h7 => ?_) | refine x_if_ne hE d_M_find_124 (fun h7 => ?_) (fun h7 => ?_)
                          · exact absurd rfl h7
                          · exact new hfr (by simp [am_free, hw, hAv, htk])
  have outer : ∀ (f k : Nat) (s : am_B) (τ : xk_St), k + f = 64 → xm_I a σ s τ → am_bfs (am_free W Av b) b f k s = am_end (am_free W Av b) a b → xk_X K (xk_vw (xm G)) τ 44 [(0, .ref (xk_wA (xm G) 0)), (1, .int (nI a)), (2, .int (nI b)), (3, .int (nI av)), (4, .int (nI s.2.1)), (5, .int (nI k))] [] := by
    intro f
    induction f with
    | zero =>
      intro k s τ hk hI he
      have hmet := am_inv_met hI.1
      refine x_iload hE d_M_find_44 5 rfl ?_
      refine x_iload hE d_M_find_46 4 rfl ?_
      first | refine xn_icmp_ge hE d_M_find_48 (fun h => ?_) (fun h => ?_) | refine x_icmp_ge hE d_M_find_48 (fun h => ?_) (fun h => ?_)
      · exact last s τ _ hI he
      · exact absurd h (by omega)
    | succ f ih =>
      intro k s τ hk hI he
      have hmet := am_inv_met hI.1
      refine x_iload hE d_M_find_44 5 rfl ?_
      refine x_iload hE d_M_find_46 4 rfl ?_
      first | refine xn_icmp_ge hE d_M_find_48 (fun h1 => ?_) (fun h1 => ?_) | refine x_icmp_ge hE d_M_find_48 (fun h1 => ?_) (fun h1 => ?_)
      · refine last s τ _ hI ?_
        rw [am_bfs, if_neg (by omega)] at he
        exact he
      · skip
        refine x_aload_n hE d_M_find_51 0 rfl ?_
        refine gf_M_80 hc d_M_find_52 ?_
        refine x_iload_n hE d_M_find_55 2 rfl ?_
        refine x_iald hc rfl rfl (by omega) (by decide) d_M_find_56 (hI.2.1 b hb) ?_
        cases hfb : s.2.2.1 b with
        | some y =>
          have hy := (hI.1.2.2.2 b y hfb).2.1
          show xk_X K _ τ 57 _ [.int (nI y)]
          first | refine xn_if_ge hE d_M_find_57 (fun h2 => ?_) (fun h2 => ?_) | refine x_if_ge hE d_M_find_57 (fun h2 => ?_) (fun h2 => ?_)
          · refine last s τ _ hI ?_
            rw [am_bfs, if_neg (fun z => by rw [hfb] at z; cases z.2)] at he
            exact he
          · exact absurd h2 not_false
        | none =>
          refine x_if_ge hE d_M_find_57 (fun h2 => ?_) (fun h2 => ?_)
          · exact absurd h2 (by decide)
          · skip
            obtain ⟨g1, g2⟩ := hI.1.2.2.1 k h1
            refine x_iconst (nI 0) hE d_M_find_60 (by decide) ?_
            refine x_istore [(6, _), (0, _), (1, _), (2, _), (3, _), (4, _), (5, _)] hE d_M_find_61 (by decide) rfl ?_
            refine x_lv [1, 2, 3, 4, 5, 6, 0] (lv' := [(0, _), (1, _), (2, _), (3, _), (4, _), (5, _), (6, _)]) rfl ?_
            refine inner 4 0 s s (s.1 k) k τ rfl g1 rfl g2 hI h1 rfl (fun τ2 hI2 => ?_)
            refine ih (k + 1) _ τ2 (by omega) hI2 ?_
            rw [am_bfs, if_pos ⟨h1, hfb⟩] at he
            exact he
  have fill : ∀ (m t : Nat) (τ : xk_St), t + m = 64 → (∀ q, q < t → τ.1 24 q = -1) → xm_F σ τ → xk_X K (xk_vw (xm G)) τ 3 [(0, .ref (xk_wA (xm G) 0)), (1, .int (nI a)), (2, .int (nI b)), (3, .int (nI av)), (4, .int (nI t))] [] := by
    intro m
    induction m with
    | zero =>
      intro t τ ht h24 hF
      refine x_iload hE d_M_find_3 4 rfl ?_
      refine x_bipush (nI 64) hE d_M_find_5 (by decide) ?_
      first | refine xn_icmp_ge hE d_M_find_7 (fun h => ?_) (fun h => ?_) | refine x_icmp_ge hE d_M_find_7 (fun h => ?_) (fun h => ?_)
      · skip
        refine x_aload_n hE d_M_find_24 0 rfl ?_
        refine gf_M_80 hc d_M_find_25 ?_
        refine x_iload_n hE d_M_find_28 1 rfl ?_
        refine x_iload_n hE d_M_find_29 1 rfl ?_
        refine x_iast hc rfl rfl (by omega) (by decide) d_M_find_30 ?_
        refine x_aload_n hE d_M_find_31 0 rfl ?_
        refine gf_M_77 hc d_M_find_32 ?_
        refine x_iconst (nI 0) hE d_M_find_35 (by decide) ?_
        refine x_iload_n hE d_M_find_36 1 rfl ?_
        refine x_iast hc rfl rfl (by omega) (by decide) d_M_find_37 ?_
        refine x_iconst (nI 1) hE d_M_find_38 (by decide) ?_
        refine x_istore [(4, _), (0, _), (1, _), (2, _), (3, _)] hE d_M_find_39 (by decide) rfl ?_
        refine x_iconst (nI 0) hE d_M_find_41 (by decide) ?_
        refine x_istore [(5, _), (4, _), (0, _), (1, _), (2, _), (3, _)] hE d_M_find_42 (by decide) rfl ?_
        refine x_lv [2, 3, 4, 5, 1, 0] (lv' := [(0, _), (1, _), (2, _), (3, _), (4, _), (5, _)]) rfl ?_
        refine outer 64 0 (am_ini a) _ rfl ⟨am_inv_ini ha, fun q hq => ?_, fun i hi => ?_, hF.1, fun k k1 k2 k3 => ?_⟩ rfl
        · rw [xk_up_o (by decide), xk_up_s]
          show _ = xc_o (if q = a then some a else none)
          by_cases e : q = a
          · rw [if_pos e, if_pos e]; rfl
          · rw [if_neg e, if_neg e, h24 q (by omega)]; rfl
        · have hi : i < 1 := hi
          rw [show i = 0 by omega, xk_up_s, if_pos rfl]
          rfl
        · rw [xk_up_o k1, xk_up_o k2]; exact hF.2 k k1 k2 k3
      · exact absurd h (by omega)
    | succ m ih =>
      intro t τ ht h24 hF
      refine x_iload hE d_M_find_3 4 rfl ?_
      refine x_bipush (nI 64) hE d_M_find_5 (by decide) ?_
      first | refine xn_icmp_ge hE d_M_find_7 (fun h => ?_) (fun h => ?_) | refine x_icmp_ge hE d_M_find_7 (fun h => ?_) (fun h => ?_)
      · exact absurd h (by omega)
      · skip
        refine x_aload_n hE d_M_find_10 0 rfl ?_
        refine gf_M_80 hc d_M_find_11 ?_
        refine x_iload hE d_M_find_14 4 rfl ?_
        refine x_iconst (-1) hE d_M_find_16 (by decide) ?_
        refine x_iast hc rfl rfl (by omega) (by decide) d_M_find_17 ?_
        refine x_iinc 4 (nI (_ + 1)) [(4, _), (0, _), (1, _), (2, _), (3, _)] hE d_M_find_18 rfl (nI_inc _) (by decide) rfl ?_
        refine x_goto hE d_M_find_21 ?_
        refine x_lv [1, 2, 3, 4, 0] (lv' := [(0, _), (1, _), (2, _), (3, _), (4, _)]) rfl ?_
        refine ih (t + 1) _ (by omega) (fun q hq => ?_) ⟨hF.1, fun k k1 k2 k3 => by rw [xk_up_o k2]; exact hF.2 k k1 k2 k3⟩
        rw [xk_up_s]
        by_cases e : q = t
        · rw [if_pos e]
        · rw [if_neg e]; exact h24 q (by omega)
  exact fill 64 0 σ rfl (fun q hq => absurd hq (Nat.not_lt_zero _)) ⟨rfl, fun _ _ _ _ => rfl⟩
end XM2
end
section
/-! THE REFERENCE: steps, moves, orders -/
section XM3
variable {G : xk_D} {σ : xk_St} {n u : Nat} {P : am_P} {W : Nat → Bool}
theorem xm_F.one {τ : xk_St} (h : xm_F σ τ) : xm_one u σ τ := ⟨h.1, fun k hk => h.2 k (by omega) (by omega) (by omega), fun k v _ _ k1 k2 => by rw [h.2 k (by omega) (by omega) (by omega)], fun i _ => by rw [h.2 14 (by omega) (by omega) (by omega)]⟩
theorem xm_F.at {τ : xk_St} {x : am_U} (h : xm_F σ τ) (hx : xm_at σ u x) : xm_at τ u x := by
  unfold xm_at at hx ⊢
  rw [h.2 9 (by omega) (by omega) (by omega), h.2 10 (by omega) (by omega) (by omega), h.2 11 (by omega) (by omega) (by omega), h.2 12 (by omega) (by omega) (by omega), h.2 13 (by omega) (by omega) (by omega), h.2 14 (by omega) (by omega) (by omega), h.2 15 (by omega) (by omega) (by omega)]
  exact hx
/-- behind a search and a take: the path is the one that was found -/
theorem xm_took {τ υ : xk_St} {x : am_U} {l : List Nat} (hx : xm_at σ u x) (hF : xm_F σ τ) (hw : ∀ i (h : i < l.length), τ.1 25 i = nI (l[i])) (hl : l.length ≤ 64) (h1 : ∀ i, i < l.length → υ.1 14 (64 * u + i) = τ.1 25 i) (h2 : υ.1 15 u = nI l.length) (h3 : ∀ k, k ≠ 14 → k ≠ 15 → υ.1 k = τ.1 k) : xm_at υ u (am_pts x, am_til x, am_ord x, am_aim x, am_pat x, l) := by
  obtain ⟨g1, g2, g3, g4, g5, g6, g7, g8⟩ := hF.at hx
  refine ⟨?_, fun q => ?_, ?_, ?_, ?_, h2, hl, fun i hi => ?_⟩
  · rw [h3 9 (by decide) (by decide)]; exact g1
  · rw [h3 10 (by decide) (by decide)]; exact g2 q
  · rw [h3 11 (by decide) (by decide)]; exact g3
  · rw [h3 12 (by decide) (by decide)]; exact g4
  · rw [h3 13 (by decide) (by decide)]; exact g5
  · rw [h1 i hi, hw i hi]
theorem k_M_step (hn : n ≤ 8) (hu : u < n) (hpl : xm_pl n P σ) (hok : am_okP n P) (hW : xm_W W σ) {x : am_U} (hx : x = P u) (ha : 0 < am_pts x) {g : Nat} (hg : g < 64) {fl : Nat} (hfl : fl = (if am_ord x = 2 then 1 else 0)) (ho : am_ord x = 1 ∨ am_ord x = 2) {t : Nat} {tl : List Nat} (hp : am_pth x = t :: tl) : xk_M (xm G) 2 y_M_step [.ref (xk_wA (xm G) 0), .int (nI u), .int (nI g), .int (nI fl)] σ (xk_pv (fun τ => xm_at τ u (am_step W n P x g) ∧ xm_one u σ τ)) := by
  have hat := hpl.2 u hu
  rw [← hx] at hat
  have hxo := hok u hu
  rw [← hx] at hxo
  have hat0 := hat
  obtain ⟨h1, h2, h3, h4, h5, h6, h7, h8⟩ := hat
  have hl : (am_pth x).length = tl.length + 1 := by rw [hp]; rfl
  have ht : t < 64 := hxo.2.2.2.2.2.2.2.1 t (by rw [hp]; exact List.mem_cons_self)
  have h80 : σ.1 14 (64 * u) = nI t := by
    have := h8 0 (by omega)
    simpa [hp] using this
  have hpat := hxo.2.2.2.2.2.1
  have hfl2 : fl < 2 := by rw [hfl]; split <;> omega
  refine xk_enter (by decide) (Nat.le_of_ble_eq_true rfl) (fun K hE hc => ?_)
  show xk_X K _ _ 0 [(0, _), (1, _), (2, _), (3, _)] []
  refine x_aload_n hE d_M_step_0 0 rfl ?_
  refine gf_M_50 hc d_M_step_1 ?_
  refine x_bipush (nI 64) hE d_M_step_4 (by decide) ?_
  refine x_iload_n hE d_M_step_6 1 rfl ?_
  first | refine xn_imul hE d_M_step_7 ?_ | refine x_imul hE d_M_step_7 ?_
  refine x_iald hc rfl rfl (by omega) (by decide) d_M_step_8 h80 ?_
  refine x_istore [(4, _), (0, _), (1, _), (2, _), (3, _)] hE d_M_step_9 (by decide) rfl ?_
  refine x_aload_n hE d_M_step_11 1 rfl ?_
  refine x_iload hE d_M_step_12 0 rfl ?_
  refine ca_M_101 hc d_M_step_14 (k_M_isTaken hn hpl hok ht) (fun r τ hq => ?_)
  obtain ⟨rfl, rfl⟩ := hq
  cases htk : am_taken P t n with
  | false =>
    first | refine xn_if_ne hE d_M_step_17 (fun z => ?_) (fun z => ?_) | refine x_if_ne hE d_M_step_17 (fun z => ?_) (fun z => ?_)
    · exact absurd rfl z
    · skip
      refine x_aload_n hE d_M_step_20 1 rfl ?_
      refine gf_M_38 hc d_M_step_21 ?_
      refine x_iload_n hE d_M_step_24 2 rfl ?_
      refine x_iload hE d_M_step_25 0 rfl ?_
      refine x_iast hc rfl rfl (by omega) (by decide) d_M_step_27 ?_
      refine x_aload_n hE d_M_step_28 1 rfl ?_
      refine gf_M_53 hc d_M_step_29 ?_
      refine x_iload_n hE d_M_step_32 2 rfl ?_
      refine x_dup2 hE d_M_step_33 rfl rfl ?_
      refine x_iald hc rfl rfl (by omega) (by decide) d_M_step_34 (show _ = nI (tl.length + 1) by rw [xk_up_o (by decide), h6, hl]) ?_
      refine x_iconst (nI 1) hE d_M_step_35 (by decide) ?_
      first | refine xn_isub hE d_M_step_36 ?_ | refine x_isub hE d_M_step_36 ?_
      refine x_iast hc rfl rfl (by omega) (by decide) d_M_step_37 ?_
      refine x_iconst (nI 0) hE d_M_step_38 (by decide) ?_
      refine x_istore [(5, _), (4, _), (0, _), (1, _), (2, _), (3, _)] hE d_M_step_39 (by decide) rfl ?_
      refine x_lv [2, 3, 4, 5, 1, 0] (lv' := [(0, _), (1, _), (2, _), (3, _), (4, _), (5, _)]) rfl ?_
      have loop : ∀ (m i : Nat) (τ : xk_St), i + m = tl.length → (∀ j, j < i → τ.1 14 (64 * u + j) = nI (tl.getD j 0)) → (∀ j, i ≤ j → j < tl.length → τ.1 14 (64 * u + (j + 1)) = nI (tl.getD j 0)) → (∀ j, j < 64 * u ∨ 64 * u + 64 ≤ j → τ.1 14 j = σ.1 14 j) → (∀ k, k ≠ 14 → τ.1 k = (xk_up (xk_up σ 10 u (nI t)) 15 u (nI (tl.length + 1 - 1))).1 k) → τ.2 = σ.2 → xk_X K (xk_vw (xm G)) τ 41 [(0, .ref (xk_wA (xm G) 0)), (1, .int (nI u)), (2, .int (nI g)), (3, .int (nI fl)), (4, .int (nI t)), (5, .int (nI i))] [] := by
        intro m
        induction m with
        | zero =>
          intro i τ hi q1 q2 q3 q4 q5
          have e15 : τ.1 15 u = nI (tl.length + 1 - 1) := by rw [q4 15 (by decide), xk_up_s, if_pos rfl]
          refine x_iload hE d_M_step_41 5 rfl ?_
          refine x_aload_n hE d_M_step_43 0 rfl ?_
          refine gf_M_53 hc d_M_step_44 ?_
          refine x_iload_n hE d_M_step_47 1 rfl ?_
          refine x_iald hc rfl rfl (by omega) (by decide) d_M_step_48 e15 ?_
          first | refine xn_icmp_ge hE d_M_step_49 (fun h => ?_) (fun h => ?_) | refine x_icmp_ge hE d_M_step_49 (fun h => ?_) (fun h => ?_)
          · skip
            refine x_aload_n hE d_M_step_84 0 rfl ?_
            refine gf_M_47 hc d_M_step_85 ?_
            refine x_iload_n hE d_M_step_88 1 rfl ?_
            refine x_iconst (nI 0) hE d_M_step_89 (by decide) ?_
            refine x_iast hc rfl rfl (by omega) (by decide) d_M_step_90 ?_
            refine x_iload_n hE d_M_step_91 3 rfl ?_
            have hat2 : xm_at (xk_up τ 13 u (nI 0)) u (am_pts x, t, am_ord x, am_aim x, 0, tl) := by
              refine ⟨?_, fun _ => ?_, ?_, ?_, ?_, ?_, by show tl.length ≤ 64; omega, fun j hj => ?_⟩
              · rw [xk_up_o (by decide), q4 9 (by decide), xk_up_o (by decide), xk_up_o (by decide)]; exact h1
              · rw [xk_up_o (by decide), q4 10 (by decide), xk_up_o (by decide), xk_up_s, if_pos rfl]
              · rw [xk_up_o (by decide), q4 11 (by decide), xk_up_o (by decide), xk_up_o (by decide)]; exact h3
              · rw [xk_up_o (by decide), q4 12 (by decide), xk_up_o (by decide), xk_up_o (by decide)]; exact h4
              · rw [xk_up_s, if_pos rfl]
              · rw [xk_up_o (by decide)]; exact e15
              · have hj : j < tl.length := hj
                rw [xk_up_o (by decide), q1 j (by omega)]
                congr 1
                simp [hj]
            have hone2 : xm_one u σ (xk_up τ 13 u (nI 0)) := by
              refine ⟨q5, fun k hk => ?_, fun k v hv k1 k2 k3 => ?_, fun j hj => by rw [xk_up_o (by decide)]; exact q3 j hj⟩
              · rw [xk_up_o (by omega), q4 k (by omega), xk_up_o (by omega), xk_up_o (by omega)]
              · have e1 : τ.1 k v = σ.1 k v := by
                  rw [q4 k k1]
                  by_cases e : k = 15
                  · subst e; rw [xk_up_s, if_neg hv, xk_up_o (by decide)]
                  · rw [xk_up_o e]
                    by_cases e2 : k = 10
                    · subst e2; rw [xk_up_s, if_neg hv]
                    · rw [xk_up_o e2]
                by_cases e : k = 13
                · subst e; rw [xk_up_s, if_neg hv]; exact e1
                · rw [xk_up_o e]; exact e1
            have hstep : am_step W n P x g = (if am_ord x = 1 ∧ t = g then (am_pts x, t, 0, 0, 0, tl) else (am_pts x, t, am_ord x, am_aim x, 0, tl)) := by
              unfold am_step
              rw [hp]
              simp only [htk]
              rw [if_pos trivial]
            first | refine xn_if_ne hE d_M_step_92 (fun y => ?_) (fun y => ?_) | refine x_if_ne hE d_M_step_92 (fun y => ?_) (fun y => ?_)
            · skip
              have ho2 : am_ord x = 2 := by
                rcases ho with o | o
                · rw [if_neg (by omega)] at hfl; exact absurd hfl y
                · exact o
              exact x_ret hc d_M_step_106 (⟨by rw [hstep, if_neg (by omega)]; exact hat2, hone2⟩)
            · skip
              have ho1 : am_ord x = 1 := by
                rcases ho with o | o
                · exact o
                · rw [if_pos o] at hfl; omega
              refine x_iload hE d_M_step_95 4 rfl ?_
              refine x_iload_n hE d_M_step_97 2 rfl ?_
              first | refine xn_icmp_ne hE d_M_step_98 (fun w => ?_) (fun w => ?_) | refine x_icmp_ne hE d_M_step_98 (fun w => ?_) (fun w => ?_)
              · skip
                exact x_ret hc d_M_step_106 (⟨by rw [hstep, if_neg (fun q => w q.2)]; exact hat2, hone2⟩)
              · skip
                refine x_aload_n hE d_M_step_101 0 rfl ?_
                refine x_iload_n hE d_M_step_102 1 rfl ?_
                refine ca_M_121 hc d_M_step_103 (k_M_stop (by omega)) (fun τ hq => ?_)
                obtain rfl := hq
                obtain ⟨f1, f2⟩ := xm_drop_at hat2
                exact x_ret hc d_M_step_106 (⟨by rw [hstep, if_pos ⟨ho1, w⟩]; exact f1, hone2.tr f2⟩)
          · exact absurd h (by omega)
        | succ m ih =>
          intro i τ hi q1 q2 q3 q4 q5
          have e15 : τ.1 15 u = nI (tl.length + 1 - 1) := by rw [q4 15 (by decide), xk_up_s, if_pos rfl]
          refine x_iload hE d_M_step_41 5 rfl ?_
          refine x_aload_n hE d_M_step_43 0 rfl ?_
          refine gf_M_53 hc d_M_step_44 ?_
          refine x_iload_n hE d_M_step_47 1 rfl ?_
          refine x_iald hc rfl rfl (by omega) (by decide) d_M_step_48 e15 ?_
          first | refine xn_icmp_ge hE d_M_step_49 (fun h => ?_) (fun h => ?_) | refine x_icmp_ge hE d_M_step_49 (fun h => ?_) (fun h => ?_)
          · exact absurd h (by omega)
          · skip
            refine x_aload_n hE d_M_step_52 0 rfl ?_
            refine gf_M_50 hc d_M_step_53 ?_
            refine x_bipush (nI 64) hE d_M_step_56 (by decide) ?_
            refine x_iload_n hE d_M_step_58 1 rfl ?_
            first | refine xn_imul hE d_M_step_59 ?_ | refine x_imul hE d_M_step_59 ?_
            refine x_iload hE d_M_step_60 5 rfl ?_
            first | refine xn_iadd hE d_M_step_62 ?_ | refine x_iadd hE d_M_step_62 ?_
            refine x_aload_n hE d_M_step_63 0 rfl ?_
            refine gf_M_50 hc d_M_step_64 ?_
            refine x_bipush (nI 64) hE d_M_step_67 (by decide) ?_
            refine x_iload_n hE d_M_step_69 1 rfl ?_
            first | refine xn_imul hE d_M_step_70 ?_ | refine x_imul hE d_M_step_70 ?_
            refine x_iload hE d_M_step_71 5 rfl ?_
            first | refine xn_iadd hE d_M_step_73 ?_ | refine x_iadd hE d_M_step_73 ?_
            refine x_iconst (nI 1) hE d_M_step_74 (by decide) ?_
            first | refine xn_iadd hE d_M_step_75 ?_ | refine x_iadd hE d_M_step_75 ?_
            refine x_iald hc rfl rfl (by omega) (by decide) d_M_step_76 (show _ = nI (tl.getD i 0) by rw [show 64 * u + i + 1 = 64 * u + (i + 1) by omega]; exact q2 i (by omega) (by omega)) ?_
            refine x_iast hc rfl rfl (by omega) (by decide) d_M_step_77 ?_
            refine x_iinc 5 (nI (_ + 1)) [(5, _), (0, _), (1, _), (2, _), (3, _), (4, _)] hE d_M_step_78 rfl (nI_inc _) (by decide) rfl ?_
            refine x_goto hE d_M_step_81 ?_
            refine x_lv [1, 2, 3, 4, 5, 0] (lv' := [(0, _), (1, _), (2, _), (3, _), (4, _), (5, _)]) rfl ?_
            refine ih (i + 1) _ (by omega) (fun j hj => ?_) (fun j j1 j2 => ?_) (fun j hj => ?_) (fun k hk => by rw [xk_up_o hk]; exact q4 k hk) q5
            · rw [xk_up_s]
              by_cases e : j = i
              · subst e; rw [if_pos rfl]
              · rw [if_neg (by omega)]; exact q1 j (by omega)
            · rw [xk_up_s, if_neg (by omega)]; exact q2 j (by omega) j2
            · rw [xk_up_s, if_neg (by omega)]; exact q3 j hj
      refine loop tl.length 0 _ (by omega) (fun j hj => absurd hj (Nat.not_lt_zero _)) (fun j _ hj => ?_) (fun j _ => by rw [xk_up_o (by decide), xk_up_o (by decide)]) (fun _ _ => rfl) rfl
      rw [xk_up_o (by decide), xk_up_o (by decide), h8 (j + 1) (by omega)]
      congr 1
      simp [hp, hj]
  | true =>
    have hup : ∀ v : Nat, xm_at (xk_up σ 13 u (nI v)) u (am_pts x, am_til x, am_ord x, am_aim x, v, am_pth x) := by
      intro v
      refine ⟨?_, ?_, ?_, ?_, ?_, ?_, h7, fun i hi => ?_⟩
      all_goals simp (disch := omega) only [xk_up_s, xk_up_o]
      · exact h1
      · exact h2
      · exact h3
      · exact h4
      · rfl
      · exact h6
      · exact h8 i hi
    first | refine xn_if_ne hE d_M_step_17 (fun z => ?_) (fun z => ?_) | refine x_if_ne hE d_M_step_17 (fun z => ?_) (fun z => ?_)
    · skip
      refine x_aload_n hE d_M_step_107 1 rfl ?_
      refine gf_M_47 hc d_M_step_108 ?_
      refine x_iload_n hE d_M_step_111 2 rfl ?_
      refine x_dup2 hE d_M_step_112 rfl rfl ?_
      refine x_iald hc rfl rfl (by omega) (by decide) d_M_step_113 h5 ?_
      refine x_iconst (nI 1) hE d_M_step_114 (by decide) ?_
      first | refine xn_iadd hE d_M_step_115 ?_ | refine x_iadd hE d_M_step_115 ?_
      refine x_iast hc rfl rfl (by omega) (by decide) d_M_step_116 ?_
      refine x_aload_n hE d_M_step_117 1 rfl ?_
      refine gf_M_47 hc d_M_step_118 ?_
      refine x_iload_n hE d_M_step_121 2 rfl ?_
      refine x_iald hc rfl rfl (by omega) (by decide) d_M_step_122 (by rw [xk_up_s, if_pos rfl]) ?_
      refine x_iconst (nI 3) hE d_M_step_123 (by decide) ?_
      first | refine xn_icmp_ge hE d_M_step_124 (fun w => ?_) (fun w => ?_) | refine x_icmp_ge hE d_M_step_124 (fun w => ?_) (fun w => ?_)
      · skip
        refine x_aload_n hE d_M_step_128 1 rfl ?_
        refine gf_M_47 hc d_M_step_129 ?_
        refine x_iload_n hE d_M_step_132 2 rfl ?_
        refine x_iconst (nI 0) hE d_M_step_133 (by decide) ?_
        refine x_iast hc rfl rfl (by omega) (by decide) d_M_step_134 ?_
        refine x_aload_n hE d_M_step_135 1 rfl ?_
        refine x_aload_n hE d_M_step_136 1 rfl ?_
        refine gf_M_38 hc d_M_step_137 ?_
        refine x_iload_n hE d_M_step_140 2 rfl ?_
        refine x_iald hc rfl rfl (by omega) (by decide) d_M_step_141 (show _ = nI (am_til x) by rw [xk_up_o (by decide), xk_up_o (by decide)]; exact h2 ha) ?_
        refine x_iload_n hE d_M_step_142 3 rfl ?_
        refine x_iconst (nI 1) hE d_M_step_143 (by decide) ?_
        rw [xk_up_up]
        have hat3 := hup 0
        have hone3 : xm_one u σ (xk_up σ 13 u (nI 0)) := xm_one.up (by decide) (by decide) (by decide)
        have hx3 : am_ok n (am_pts x, am_til x, am_ord x, am_aim x, 0, am_pth x) := ⟨hxo.1, hxo.2.1, hxo.2.2.1, hxo.2.2.2.1, hxo.2.2.2.2.1, (by decide : 0 < 3), hxo.2.2.2.2.2.2.1, hxo.2.2.2.2.2.2.2.1, fun e => absurd e (show ¬ am_pts x = 0 by omega)⟩
        have hpl3 := hpl.set hat3 hone3
        have hok3 := am_okP_set (u := u) hok hx3
        have htk3 : ∀ q, (fun q => am_taken P q n) q = (decide (1 = 1) && am_taken (am_set P u (am_pts x, am_til x, am_ord x, am_aim x, 0, am_pth x)) q n) := fun q => by
          rw [am_taken_set (by rw [← hx]) (by rw [← hx])]
          simp
        refine ca_M_117 hc d_M_step_144 (k_M_find hn hpl3 hok3 (hW.mv (hone3.2.1 1 (by omega))) hxo.2.1 hg (by decide) htk3) (fun r τ hq => ?_)
        obtain ⟨rfl, f1, f2⟩ := hq
        have hfo := am_find_ok (free := am_free W (fun q => am_taken P q n) g) (b := g) hxo.2.1
        have hstep : am_step W n P x g = (match am_find (am_free W (fun t => am_taken P t n) g) (am_til x) g with
          | [] => (am_pts x, am_til x, am_ord x, am_aim x, 0, am_pth x)
          | q :: z => (am_pts x, am_til x, am_ord x, am_aim x, 0, q :: z)) := by
          unfold am_step
          rw [hp]
          simp only [htk]
          rw [if_neg (by simp), if_neg (by omega)]
          cases am_find (am_free W (fun t => am_taken P t n) g) (am_til x) g <;> rfl
        refine x_istore [(5, _), (4, _), (0, _), (1, _), (2, _), (3, _)] hE d_M_step_147 (by decide) rfl ?_
        refine x_iload hE d_M_step_149 0 rfl ?_
        first | refine xn_if_le hE d_M_step_151 (fun y => ?_) (fun y => ?_) | refine x_if_le hE d_M_step_151 (fun y => ?_) (fun y => ?_)
        · skip
          refine x_ret hc d_M_step_161 ⟨?_, hone3.tr f2.one⟩
          rw [hstep, List.length_eq_zero_iff.mp y]
          exact f2.at hat3
        · skip
          refine x_aload_n hE d_M_step_154 2 rfl ?_
          refine x_iload_n hE d_M_step_155 3 rfl ?_
          refine x_iload hE d_M_step_156 0 rfl ?_
          refine ca_M_128 hc d_M_step_158 (k_M_take (by omega) (Nat.le_of_lt hfo.1)) (fun τ hq => ?_)
          obtain ⟨t1, t2, t3, t4⟩ := hq
          refine x_ret hc d_M_step_161 ⟨?_, (hone3.tr f2.one).tr t4⟩
          have h9 := xm_took hat3 f2 f1 (Nat.le_of_lt hfo.1) t1 t2 t3
          rw [hstep]
          cases hz : am_find (am_free W (fun t => am_taken P t n) g) (am_til x) g with
          | nil => rw [hz] at y; exact absurd y (by simp)
          | cons q z => rw [hz] at h9; exact h9
      · skip
        have hstep : am_step W n P x g = (am_pts x, am_til x, am_ord x, am_aim x, am_pat x + 1, am_pth x) := by
          unfold am_step
          rw [hp]
          simp only [htk]
          rw [if_neg (by simp), if_pos (by omega), ← hp]
        refine x_ret hc d_M_step_127 ⟨by rw [hstep]; exact hup _, xm_one.up (by decide) (by decide) (by decide)⟩
    · exact absurd z (by decide)
theorem k_M_move (hn : n ≤ 8) (hu : u < n) (hpl : xm_pl n P σ) (hok : am_okP n P) (hW : xm_W W σ) (ho0 : am_ord (P u) ≠ 0) : xk_M (xm G) 3 y_M_move [.ref (xk_wA (xm G) 0), .int (nI u)] σ (xk_pv (fun τ => xm_at τ u (am_go W n P (P u)) ∧ xm_one u σ τ)) := by
  have hat := hpl.2 u hu
  have hxo := hok u hu
  have ha := am_ok_alive hxo ho0
  have ho := hxo.2.2.1
  have haim := hxo.2.2.2.1
  have htil := hxo.2.1
  have hlen := hxo.2.2.2.2.2.2.1
  obtain ⟨h1, h2, h3, h4, h5, h6, h7, h8⟩ := hat
  have hat := hpl.2 u hu
  have rest : ∀ (K : xk_K) (fl g : Nat) (τ : xk_St) (x : am_U), xk_E K c_M_move 4 → xk_H K (xm G) c_M_move 4 RM 3 none (xk_pv (fun τ => xm_at τ u (am_go W n P (P u)) ∧ xm_one u σ τ)) → fl = (if am_ord (P u) = 2 then 1 else 0) → g < 64 → xm_at τ u x → xm_one u σ τ → am_pts x = am_pts (P u) → am_til x = am_til (P u) → am_ord x = am_ord (P u) → am_ok n x → am_go W n P (P u) = am_step W n P x g →
      xk_X K (xk_vw (xm G)) τ 171 [(0, .ref (xk_wA (xm G) 0)), (1, .int (nI u)), (2, .int (nI fl)), (3, .int (nI g))] [] := by
    intro K fl g τ x hE hc hfl hg hatx hone e1 e2 e3 hx hgo
    have hl2 := hx.2.2.2.2.2.2.1
    refine x_aload_n hE d_M_move_171 0 rfl ?_
    refine gf_M_53 hc d_M_move_172 ?_
    refine x_iload_n hE d_M_move_175 1 rfl ?_
    refine x_iald hc rfl rfl (by omega) (by decide) d_M_move_176 hatx.2.2.2.2.2.1 ?_
    cases hpth : am_pth x with
    | nil =>
      first | refine xn_if_ne hE d_M_move_177 (fun z => ?_) (fun z => ?_) | refine x_if_ne hE d_M_move_177 (fun z => ?_) (fun z => ?_)
      · exact absurd rfl z
      · skip
        refine x_aload_n hE d_M_move_180 0 rfl ?_
        refine x_iload_n hE d_M_move_181 1 rfl ?_
        refine ca_M_121 hc d_M_move_182 (k_M_stop (by omega)) (fun τ hq => ?_)
        obtain rfl := hq
        refine x_goto hE d_M_move_185 ?_
        obtain ⟨f1, f2⟩ := xm_drop_at hatx
        exact x_ret hc d_M_move_195 (⟨by rw [hgo]; unfold am_step; rw [hpth]; exact f1, hone.tr f2⟩)
    | cons t tl =>
      have hl3 : (t :: tl).length ≤ 64 := by rw [← hpth]; exact hl2
      first | refine xn_if_ne hE d_M_move_177 (fun z => ?_) (fun z => ?_) | refine x_if_ne hE d_M_move_177 (fun z => ?_) (fun z => ?_)
      · skip
        have hpl2 := hpl.set hatx hone
        have hok2 := am_okP_set (u := u) hok hx
        refine x_aload_n hE d_M_move_188 0 rfl ?_
        refine x_iload_n hE d_M_move_189 1 rfl ?_
        refine x_iload_n hE d_M_move_190 3 rfl ?_
        refine x_iload_n hE d_M_move_191 2 rfl ?_
        refine ca_M_132 hc d_M_move_192 (k_M_step hn hu hpl2 hok2 (hW.mv (hone.2.1 1 (by omega))) (x := x) (by rw [am_set_s]) (by omega) hg (by rw [e3]; exact hfl) (by omega) hpth) (fun τ hq => ?_)
        obtain ⟨f1, f2⟩ := hq
        refine x_ret hc d_M_move_195 ⟨?_, hone.tr f2⟩
        rw [hgo]
        have e9 : am_step W n (am_set P u x) x g = am_step W n P x g := by
          have htk : ∀ t, am_taken (am_set P u x) t n = am_taken P t n := fun t => am_taken_set e1 e2
          unfold am_step
          simp only [htk]
        rw [← e9]
        exact f1
      · exact absurd z (by simp)
  have walk : ∀ (K : xk_K) (fl g : Nat), xk_E K c_M_move 4 → xk_H K (xm G) c_M_move 4 RM 3 none (xk_pv (fun τ => xm_at τ u (am_go W n P (P u)) ∧ xm_one u σ τ)) → fl = (if am_ord (P u) = 2 then 1 else 0) → g < 64 → am_go W n P (P u) = am_walk W n P (P u) g →
      xk_X K (xk_vw (xm G)) σ 123 [(0, .ref (xk_wA (xm G) 0)), (1, .int (nI u)), (2, .int (nI fl)), (3, .int (nI g))] [] := by
    intro K fl g hE hc hfl hg hgo
    have find : (am_pth (P u)).getLast? ≠ some g → xk_X K (xk_vw (xm G)) σ 154 [(0, .ref (xk_wA (xm G) 0)), (1, .int (nI u)), (2, .int (nI fl)), (3, .int (nI g))] [] := by
      intro hl
      have hav0 : ∀ q, (fun _ => false : Nat → Bool) q = (decide (0 = 1) && am_taken P q n) := fun q => by simp
      have hfo := am_find_ok (free := am_free W (fun _ => false) g) (b := g) htil
      refine x_aload_n hE d_M_move_154 0 rfl ?_
      refine x_iload_n hE d_M_move_155 1 rfl ?_
      refine x_aload_n hE d_M_move_156 0 rfl ?_
      refine x_aload_n hE d_M_move_157 0 rfl ?_
      refine gf_M_38 hc d_M_move_158 ?_
      refine x_iload_n hE d_M_move_161 1 rfl ?_
      refine x_iald hc rfl rfl (by omega) (by decide) d_M_move_162 (h2 ha) ?_
      refine x_iload_n hE d_M_move_163 3 rfl ?_
      refine x_iconst (nI 0) hE d_M_move_164 (by decide) ?_
      refine ca_M_117 hc d_M_move_165 (k_M_find hn hpl hok hW htil hg (by decide) hav0) (fun r τ hq => ?_)
      obtain ⟨rfl, f1, f2⟩ := hq
      refine ca_M_128 hc d_M_move_168 (k_M_take (by omega) (Nat.le_of_lt hfo.1)) (fun τ hq => ?_)
      obtain ⟨t1, t2, t3, t4⟩ := hq
      have h9 := xm_took hat f2 f1 (Nat.le_of_lt hfo.1) t1 t2 t3
      exact rest K fl g _ _ hE hc hfl hg h9 (f2.one.tr t4) rfl rfl rfl ⟨hxo.1, hxo.2.1, hxo.2.2.1, hxo.2.2.2.1, hxo.2.2.2.2.1, hxo.2.2.2.2.2.1, Nat.le_of_lt hfo.1, hfo.2, fun e => absurd e (show ¬ am_pts (P u) = 0 by omega)⟩ (by rw [hgo]; unfold am_walk; rw [if_neg hl])
    refine x_aload_n hE d_M_move_123 0 rfl ?_
    refine gf_M_53 hc d_M_move_124 ?_
    refine x_iload_n hE d_M_move_127 1 rfl ?_
    refine x_iald hc rfl rfl (by omega) (by decide) d_M_move_128 h6 ?_
    first | refine xn_if_eq hE d_M_move_129 (fun z => ?_) (fun z => ?_) | refine x_if_eq hE d_M_move_129 (fun z => ?_) (fun z => ?_)
    · exact find (by rw [List.length_eq_zero_iff.mp z]; simp)
    · skip
      have hlast : (am_pth (P u)).getLast? = some ((am_pth (P u))[(am_pth (P u)).length - 1]) := by
        rw [List.getLast?_eq_getElem?, List.getElem?_eq_getElem]
      have h11 := h8 ((am_pth (P u)).length - 1) (by omega)
      rw [show 64 * u + ((am_pth (P u)).length - 1) = 64 * u + (am_pth (P u)).length - 1 by omega] at h11
      have h12 : (am_pth (P u))[(am_pth (P u)).length - 1] < 64 := hxo.2.2.2.2.2.2.2.1 _ (List.getElem_mem _)
      refine x_aload_n hE d_M_move_132 0 rfl ?_
      refine gf_M_50 hc d_M_move_133 ?_
      refine x_bipush (nI 64) hE d_M_move_136 (by decide) ?_
      refine x_iload_n hE d_M_move_138 1 rfl ?_
      first | refine xn_imul hE d_M_move_139 ?_ | refine x_imul hE d_M_move_139 ?_
      refine x_aload_n hE d_M_move_140 0 rfl ?_
      refine gf_M_53 hc d_M_move_141 ?_
      refine x_iload_n hE d_M_move_144 1 rfl ?_
      refine x_iald hc rfl rfl (by omega) (by decide) d_M_move_145 h6 ?_
      first | refine xn_iadd hE d_M_move_146 ?_ | refine x_iadd hE d_M_move_146 ?_
      refine x_iconst (nI 1) hE d_M_move_147 (by decide) ?_
      first | refine xn_isub hE d_M_move_148 ?_ | refine x_isub hE d_M_move_148 ?_
      refine x_iald hc rfl rfl (by omega) (by decide) d_M_move_149 h11 ?_
      refine x_iload_n hE d_M_move_150 3 rfl ?_
      first | refine xn_icmp_eq hE d_M_move_151 (fun y => ?_) (fun y => ?_) | refine x_icmp_eq hE d_M_move_151 (fun y => ?_) (fun y => ?_)
      · skip
        exact rest K fl g σ (P u) hE hc hfl hg hat xm_one.rf rfl rfl rfl hxo (by rw [hgo]; unfold am_walk; rw [if_pos (by rw [hlast, y])])
      · exact find (by rw [hlast]; exact fun q => y (Option.some.inj q))
  refine xk_enter (by decide) (Nat.le_of_ble_eq_true rfl) (fun K hE hc => ?_)
  show xk_X K _ _ 0 [(0, _), (1, _)] []
  refine x_aload_n hE d_M_move_0 0 rfl ?_
  refine gf_M_41 hc d_M_move_1 ?_
  refine x_iload_n hE d_M_move_4 1 rfl ?_
  refine x_iald hc rfl rfl (by omega) (by decide) d_M_move_5 h3 ?_
  refine x_iconst (nI 2) hE d_M_move_6 (by decide) ?_
  first | refine xn_icmp_ne hE d_M_move_7 (fun ho2 => ?_) (fun ho2 => ?_) | refine x_icmp_ne hE d_M_move_7 (fun ho2 => ?_) (fun ho2 => ?_)
  · skip
    have ho1 : am_ord (P u) = 1 := by omega
    refine x_iconst (nI 0) hE d_M_move_14 (by decide) ?_
    refine x_istore_n [(2, _), (0, _), (1, _)] hE d_M_move_15 rfl (by decide) rfl ?_
    refine x_iload_n hE d_M_move_16 0 rfl ?_
    first | refine xn_if_eq hE d_M_move_17 (fun z => ?_) (fun z => ?_) | refine x_if_eq hE d_M_move_17 (fun z => ?_) (fun z => ?_)
    · skip
      have drop : (am_aim (P u) = am_til (P u) ∨ W (am_aim (P u)) = true) → xk_X K (xk_vw (xm G)) σ 66 [(2, .int (nI 0)), (0, .ref (xk_wA (xm G) 0)), (1, .int (nI u))] [] := by
        intro hd
        refine x_aload_n hE d_M_move_66 1 rfl ?_
        refine x_iload_n hE d_M_move_67 2 rfl ?_
        refine ca_M_121 hc d_M_move_68 (k_M_stop (by omega)) (fun τ hq => ?_)
        obtain rfl := hq
        obtain ⟨f1, f2⟩ := xm_drop_at hat
        exact x_ret hc d_M_move_71 (⟨by unfold am_go; rw [if_neg ho2, if_pos hd]; exact f1, f2⟩)
      refine x_aload_n hE d_M_move_37 1 rfl ?_
      refine gf_M_44 hc d_M_move_38 ?_
      refine x_iload_n hE d_M_move_41 2 rfl ?_
      refine x_iald hc rfl rfl (by omega) (by decide) d_M_move_42 h4 ?_
      refine x_aload_n hE d_M_move_43 1 rfl ?_
      refine gf_M_38 hc d_M_move_44 ?_
      refine x_iload_n hE d_M_move_47 2 rfl ?_
      refine x_iald hc rfl rfl (by omega) (by decide) d_M_move_48 (h2 ha) ?_
      first | refine xn_icmp_eq hE d_M_move_49 (fun y => ?_) (fun y => ?_) | refine x_icmp_eq hE d_M_move_49 (fun y => ?_) (fun y => ?_)
      · exact drop (Or.inl y)
      · skip
        refine x_aload_n hE d_M_move_52 1 rfl ?_
        refine gf_M_7 hc d_M_move_53 ?_
        refine x_aload_n hE d_M_move_56 1 rfl ?_
        refine gf_M_44 hc d_M_move_57 ?_
        refine x_iload_n hE d_M_move_60 2 rfl ?_
        refine x_iald hc rfl rfl (by omega) (by decide) d_M_move_61 h4 ?_
        refine x_zald hc rfl rfl (by omega) (by decide) d_M_move_62 (hW _ haim) ?_
        cases hw : W (am_aim (P u)) with
        | true =>
          first | refine xn_if_eq hE d_M_move_63 (fun w => ?_) (fun w => ?_) | refine x_if_eq hE d_M_move_63 (fun w => ?_) (fun w => ?_)
          · exact absurd w (by decide)
          · exact drop (Or.inr hw)
        | false =>
          first | refine xn_if_eq hE d_M_move_63 (fun w => ?_) (fun w => ?_) | refine x_if_eq hE d_M_move_63 (fun w => ?_) (fun w => ?_)
          · skip
            refine x_iload_n hE d_M_move_72 0 rfl ?_
            first | refine xn_if_eq hE d_M_move_73 (fun v => ?_) (fun v => ?_) | refine x_if_eq hE d_M_move_73 (fun v => ?_) (fun v => ?_)
            · skip
              refine x_aload_n hE d_M_move_90 1 rfl ?_
              refine gf_M_44 hc d_M_move_91 ?_
              refine x_iload_n hE d_M_move_94 2 rfl ?_
              refine x_iald hc rfl rfl (by omega) (by decide) d_M_move_95 h4 ?_
              refine x_istore_n [(3, _), (2, _), (0, _), (1, _)] hE d_M_move_96 rfl (by decide) rfl ?_
              refine x_iload_n hE d_M_move_97 1 rfl ?_
              first | refine xn_if_eq hE d_M_move_98 (fun s => ?_) (fun s => ?_) | refine x_if_eq hE d_M_move_98 (fun s => ?_) (fun s => ?_)
              · skip
                refine x_lv [2, 3, 1, 0] (lv' := [(0, _), (1, _), (2, _), (3, _)]) rfl ?_
                exact walk K 0 _ hE hc (by rw [if_neg ho2]) haim (by unfold am_go; rw [if_neg ho2, if_neg (by rw [hw]; simp [y])])
              · exact absurd rfl s
            · exact absurd rfl v
          · exact absurd rfl w
    · exact absurd rfl z
  · skip
    have haim2 := hxo.2.2.2.2.1 ho2
    have hat2 := hpl.2 _ haim2
    have hxo2 := hok _ haim2
    have hb2 := hxo2.1
    refine x_iconst (nI 1) hE d_M_move_10 (by decide) ?_
    refine x_goto hE d_M_move_11 ?_
    refine x_istore_n [(2, _), (0, _), (1, _)] hE d_M_move_15 rfl (by decide) rfl ?_
    refine x_iload_n hE d_M_move_16 0 rfl ?_
    first | refine xn_if_eq hE d_M_move_17 (fun z => ?_) (fun z => ?_) | refine x_if_eq hE d_M_move_17 (fun z => ?_) (fun z => ?_)
    · exact absurd z (by decide)
    · skip
      refine x_aload_n hE d_M_move_20 1 rfl ?_
      refine gf_M_35 hc d_M_move_21 ?_
      refine x_aload_n hE d_M_move_24 1 rfl ?_
      refine gf_M_44 hc d_M_move_25 ?_
      refine x_iload_n hE d_M_move_28 2 rfl ?_
      refine x_iald hc rfl rfl (by omega) (by decide) d_M_move_29 h4 ?_
      refine x_iald hc rfl rfl (by omega) (by decide) d_M_move_30 hat2.1 ?_
      first | refine xn_if_ne hE d_M_move_31 (fun y => ?_) (fun y => ?_) | refine x_if_ne hE d_M_move_31 (fun y => ?_) (fun y => ?_)
      · skip
        refine x_iload_n hE d_M_move_72 0 rfl ?_
        first | refine xn_if_eq hE d_M_move_73 (fun v => ?_) (fun v => ?_) | refine x_if_eq hE d_M_move_73 (fun v => ?_) (fun v => ?_)
        · exact absurd v (by decide)
        · skip
          have hg := hxo2.2.1
          refine x_aload_n hE d_M_move_76 1 rfl ?_
          refine gf_M_38 hc d_M_move_77 ?_
          refine x_aload_n hE d_M_move_80 1 rfl ?_
          refine gf_M_44 hc d_M_move_81 ?_
          refine x_iload_n hE d_M_move_84 2 rfl ?_
          refine x_iald hc rfl rfl (by omega) (by decide) d_M_move_85 h4 ?_
          refine x_iald hc rfl rfl (by omega) (by decide) d_M_move_86 (hat2.2.1 (by omega)) ?_
          refine x_goto hE d_M_move_87 ?_
          refine x_istore_n [(3, _), (2, _), (0, _), (1, _)] hE d_M_move_96 rfl (by decide) rfl ?_
          refine x_iload_n hE d_M_move_97 1 rfl ?_
          first | refine xn_if_eq hE d_M_move_98 (fun s => ?_) (fun s => ?_) | refine x_if_eq hE d_M_move_98 (fun s => ?_) (fun s => ?_)
          · exact absurd s (by decide)
          · skip
            refine x_aload_n hE d_M_move_101 2 rfl ?_
            refine gf_M_38 hc d_M_move_102 ?_
            refine x_iload_n hE d_M_move_105 3 rfl ?_
            refine x_iald hc rfl rfl (by omega) (by decide) d_M_move_106 (h2 ha) ?_
            refine x_iload_n hE d_M_move_107 0 rfl ?_
            refine ca_M_125 hc d_M_move_108 (k_M_distance htil hg) (fun r τ hq => ?_)
            obtain ⟨rfl, rfl⟩ := hq
            have hdl : am_dist (am_til (P u)) (am_til (P (am_aim (P u)))) < 2 ^ 31 := by unfold am_dist am_dif; omega
            refine x_iconst (nI 1) hE d_M_move_111 (by decide) ?_
            first | refine xn_icmp_ne hE d_M_move_112 (fun q => ?_) (fun q => ?_) | refine x_icmp_ne hE d_M_move_112 (fun q => ?_) (fun q => ?_)
            · skip
              refine x_lv [2, 3, 1, 0] (lv' := [(0, _), (1, _), (2, _), (3, _)]) rfl ?_
              exact walk K 1 _ hE hc (by rw [if_pos ho2]) hg (by unfold am_go; rw [if_pos ho2, if_neg y, if_neg q])
            · skip
              refine x_aload_n hE d_M_move_115 2 rfl ?_
              refine gf_M_53 hc d_M_move_116 ?_
              refine x_iload_n hE d_M_move_119 3 rfl ?_
              refine x_iconst (nI 0) hE d_M_move_120 (by decide) ?_
              refine x_iast hc rfl rfl (by omega) (by decide) d_M_move_121 ?_
              refine x_ret hc d_M_move_122 ⟨?_, xm_one.up (by decide) (by decide) (by decide)⟩
              unfold am_go
              rw [if_pos ho2, if_neg y, if_pos q]
              refine ⟨?_, ?_, ?_, ?_, ?_, ?_, Nat.zero_le _, fun i hi => absurd hi (Nat.not_lt_zero _)⟩
              all_goals simp (disch := omega) only [xk_up_s, xk_up_o]
              · exact h1
              · exact h2
              · exact h3
              · exact h4
              · exact h5
              · rfl
      · skip
        refine x_goto hE d_M_move_34 ?_
        refine x_aload_n hE d_M_move_66 1 rfl ?_
        refine x_iload_n hE d_M_move_67 2 rfl ?_
        refine ca_M_121 hc d_M_move_68 (k_M_stop (by omega)) (fun τ hq => ?_)
        obtain rfl := hq
        obtain ⟨f1, f2⟩ := xm_drop_at hat
        exact x_ret hc d_M_move_71 (⟨by unfold am_go; rw [if_pos ho2, if_pos y]; exact f1, f2⟩)
end XM3
end
section
/-! THE REFERENCE: a tick -/
def xm_L (cnt : Nat) (L : am_L) (σ : xk_St) : Prop := σ.1 0 7 = nI cnt ∧ ∀ e, e < cnt → σ.1 5 e = (L e).1 ∧ σ.1 6 e = nI (L e).2.1 ∧ σ.1 7 e = nI (L e).2.2.1 ∧ σ.1 8 e = nI (L e).2.2.2
theorem xm_L.mv {cnt : Nat} {L : am_L} {σ τ : xk_St} (h : xm_L cnt L σ) (e : ∀ k, k < 9 → τ.1 k = σ.1 k) : xm_L cnt L τ := by
  unfold xm_L
  rw [e 0 (by omega), e 5 (by omega), e 6 (by omega), e 7 (by omega), e 8 (by omega)]
  exact h
section XM4
variable {G : xk_D} {σ : xk_St} {n u : Nat} {P : am_P} {W : Nat → Bool}
theorem k_M_obey (hn : n ≤ 8) (hpl : xm_pl n P σ) (hok : am_okP n P) {cnt : Nat} {L : am_L} {t : Int32} (hL : xm_L cnt L σ) (hLo : am_okL n cnt L) : xk_M (xm G) 0 y_M_obey [.ref (xk_wA (xm G) 0), .int t] σ (xk_pv (fun τ => xm_pl n (am_obey L t P cnt) τ ∧ xm_fr σ τ)) := by
  have hc24 := hLo.1
  refine xk_enter (by decide) (Nat.le_of_ble_eq_true rfl) (fun K hE hc => ?_)
  show xk_X K _ _ 0 [(0, _), (1, _)] []
  refine x_iconst (nI 0) hE d_M_obey_0 (by decide) ?_
  refine x_istore_n [(2, _), (0, _), (1, _)] hE d_M_obey_1 rfl (by decide) rfl ?_
  refine x_lv [1, 2, 0] (lv' := [(0, _), (1, _), (2, _)]) rfl ?_
  have loop : ∀ (m e : Nat) (τ : xk_St), e + m = cnt → xm_pl n (am_obey L t P e) τ → xm_fr σ τ → xk_X K (xk_vw (xm G)) τ 2 [(0, .ref (xk_wA (xm G) 0)), (1, .int t), (2, .int (nI e))] [] := by
    intro m
    induction m with
    | zero =>
      intro e τ he hpl2 hf
      have hL2 : xm_L cnt L τ := hL.mv (fun k hk => hf.2 k (by omega))
      refine x_iload_n hE d_M_obey_2 2 rfl ?_
      refine x_aload_n hE d_M_obey_3 0 rfl ?_
      refine gf_M_110 hc d_M_obey_4 hL2.1 ?_
      first | refine xn_icmp_ge hE d_M_obey_7 (fun h => ?_) (fun h => ?_) | refine x_icmp_ge hE d_M_obey_7 (fun h => ?_) (fun h => ?_)
      · skip
        have e0 : e = cnt := by omega
        subst e0
        exact x_ret hc d_M_obey_80 (⟨hpl2, hf⟩)
      · exact absurd h (by omega)
    | succ m ih =>
      intro e τ he hpl2 hf
      have hL2 : xm_L cnt L τ := hL.mv (fun k hk => hf.2 k (by omega))
      have hLe := hL2.2 e (by omega)
      obtain ⟨o1, o2, o3, o4⟩ := hLo.2 e (by omega)
      have hok2 := am_okP_obey (t := t) hok hLo e (by omega)
      have hat := hpl2.2 _ o1
      have hb := (hok2 _ o1).1
      have next : ∀ (τ2 : xk_St), xm_pl n (am_obey L t P (e + 1)) τ2 → xm_fr σ τ2 → xk_X K (xk_vw (xm G)) τ2 74 [(3, .int (nI (L e).2.1)), (0, .ref (xk_wA (xm G) 0)), (1, .int t), (2, .int (nI e))] [] := by
        intro τ2 g1 g2
        refine x_iinc 3 (nI (_ + 1)) [(2, _), (3, _), (0, _), (1, _)] hE d_M_obey_74 rfl (nI_inc _) (by decide) rfl ?_
        refine x_goto hE d_M_obey_77 ?_
        refine x_lv [2, 3, 0] (lv' := [(0, _), (1, _), (2, _)]) rfl ?_
        exact ih (e + 1) τ2 (by omega) g1 g2
      refine x_iload_n hE d_M_obey_2 2 rfl ?_
      refine x_aload_n hE d_M_obey_3 0 rfl ?_
      refine gf_M_110 hc d_M_obey_4 hL2.1 ?_
      first | refine xn_icmp_ge hE d_M_obey_7 (fun h => ?_) (fun h => ?_) | refine x_icmp_ge hE d_M_obey_7 (fun h => ?_) (fun h => ?_)
      · exact absurd h (by omega)
      · skip
        refine x_aload_n hE d_M_obey_10 0 rfl ?_
        refine gf_M_26 hc d_M_obey_11 ?_
        refine x_iload_n hE d_M_obey_14 2 rfl ?_
        refine x_iald hc rfl rfl (by omega) (by decide) d_M_obey_15 hLe.2.1 ?_
        refine x_istore_n [(3, _), (0, _), (1, _), (2, _)] hE d_M_obey_16 rfl (by decide) rfl ?_
        refine x_aload_n hE d_M_obey_17 1 rfl ?_
        refine gf_M_23 hc d_M_obey_18 ?_
        refine x_iload_n hE d_M_obey_21 3 rfl ?_
        refine x_iald hc rfl rfl (by omega) (by decide) d_M_obey_22 hLe.1 ?_
        refine x_iload_n hE d_M_obey_23 2 rfl ?_
        refine x_icmp_ne hE d_M_obey_24 (fun h2 => ?_) (fun h2 => ?_)
        · refine next τ ?_ hf
          simp only [am_obey]
          rw [if_neg (fun q => h2 q.1)]
          exact hpl2
        · skip
          refine x_aload_n hE d_M_obey_27 1 rfl ?_
          refine gf_M_35 hc d_M_obey_28 ?_
          refine x_iload_n hE d_M_obey_31 0 rfl ?_
          refine x_iald hc rfl rfl (by omega) (by decide) d_M_obey_32 hat.1 ?_
          first | refine xn_if_le hE d_M_obey_33 (fun h3 => ?_) (fun h3 => ?_) | refine x_if_le hE d_M_obey_33 (fun h3 => ?_) (fun h3 => ?_)
          · refine next τ ?_ hf
            simp only [am_obey]
            rw [if_neg (fun q => by omega)]
            exact hpl2
          · skip
            refine x_aload_n hE d_M_obey_36 1 rfl ?_
            refine gf_M_53 hc d_M_obey_37 ?_
            refine x_iload_n hE d_M_obey_40 0 rfl ?_
            refine x_iconst (nI 0) hE d_M_obey_41 (by decide) ?_
            refine x_iast hc rfl rfl (by omega) (by decide) d_M_obey_42 ?_
            refine x_aload_n hE d_M_obey_43 1 rfl ?_
            refine gf_M_47 hc d_M_obey_44 ?_
            refine x_iload_n hE d_M_obey_47 0 rfl ?_
            refine x_iconst (nI 0) hE d_M_obey_48 (by decide) ?_
            refine x_iast hc rfl rfl (by omega) (by decide) d_M_obey_49 ?_
            refine x_aload_n hE d_M_obey_50 1 rfl ?_
            refine gf_M_41 hc d_M_obey_51 ?_
            refine x_iload_n hE d_M_obey_54 0 rfl ?_
            refine x_aload_n hE d_M_obey_55 1 rfl ?_
            refine gf_M_29 hc d_M_obey_56 ?_
            refine x_iload_n hE d_M_obey_59 3 rfl ?_
            refine x_iald hc rfl rfl (by omega) (by decide) d_M_obey_60 (show _ = nI (L e).2.2.1 by rw [xk_up_o (by decide), xk_up_o (by decide)]; exact hLe.2.2.1) ?_
            refine x_iast hc rfl rfl (by omega) (by decide) d_M_obey_61 ?_
            refine x_aload_n hE d_M_obey_62 1 rfl ?_
            refine gf_M_44 hc d_M_obey_63 ?_
            refine x_iload_n hE d_M_obey_66 0 rfl ?_
            refine x_aload_n hE d_M_obey_67 1 rfl ?_
            refine gf_M_32 hc d_M_obey_68 ?_
            refine x_iload_n hE d_M_obey_71 3 rfl ?_
            refine x_iald hc rfl rfl (by omega) (by decide) d_M_obey_72 (show _ = nI (L e).2.2.2 by rw [xk_up_o (by decide), xk_up_o (by decide), xk_up_o (by decide)]; exact hLe.2.2.2) ?_
            refine x_iast hc rfl rfl (by omega) (by decide) d_M_obey_73 ?_
            have hone : xm_one (L e).2.1 τ (xk_up (xk_up (xk_up (xk_up τ 15 (L e).2.1 (nI 0)) 13 (L e).2.1 (nI 0)) 11 (L e).2.1 (nI (L e).2.2.1)) 12 (L e).2.1 (nI (L e).2.2.2)) := (((xm_one.up (by decide) (by decide) (by decide)).tr (xm_one.up (by decide) (by decide) (by decide))).tr (xm_one.up (by decide) (by decide) (by decide))).tr (xm_one.up (by decide) (by decide) (by decide))
            refine next _ ?_ (hf.tr hone.fr)
            simp only [am_obey]
            rw [if_pos ⟨h2, h3⟩]
            refine hpl2.set ?_ hone
            obtain ⟨h1, h2, h3, h4, h5, h6, h7, h8⟩ := hat
            refine ⟨?_, ?_, ?_, ?_, ?_, ?_, Nat.zero_le _, fun i hi => absurd hi (Nat.not_lt_zero _)⟩
            all_goals simp (disch := omega) only [xk_up_s, xk_up_o]
            · exact h1
            · exact h2
            · rfl
            · rfl
            · rfl
            · rfl
  exact loop cnt 0 σ (by omega) hpl xm_fr.rf
theorem k_M_fight (hn : n ≤ 8) (hpl : xm_pl n P σ) (hok : am_okP n P) : xk_M (xm G) 1 y_M_fight [.ref (xk_wA (xm G) 0)] σ (xk_pv (fun τ => xm_pl n (am_blow n P) τ ∧ (∀ u, u < n → τ.1 26 u = nI (am_lost P n u)) ∧ xm_fr σ τ)) := by
  refine xk_enter (by decide) (Nat.le_of_ble_eq_true rfl) (fun K hE hc => ?_)
  show xk_X K _ _ 0 [(0, _)] []
  refine x_iconst (nI 0) hE d_M_fight_0 (by decide) ?_
  refine x_istore_n [(1, _), (0, _)] hE d_M_fight_1 rfl (by decide) rfl ?_
  refine x_lv [1, 0] (lv' := [(0, _), (1, _)]) rfl ?_
  have third : ∀ (m u : Nat) (τ : xk_St), u + m = n → xm_pl n (fun v => if v < u then am_hurt (P v) (am_lost P n v) else P v) τ → (∀ v, v < n → τ.1 26 v = nI (am_lost P n v)) → xm_fr σ τ → xk_X K (xk_vw (xm G)) τ 123 [(0, .ref (xk_wA (xm G) 0)), (1, .int (nI u))] [] := by
    intro m
    induction m with
    | zero =>
      intro u τ hu hpl2 hlo hf
      refine x_iload_n hE d_M_fight_123 1 rfl ?_
      refine x_aload_n hE d_M_fight_124 0 rfl ?_
      refine gf_M_89 hc d_M_fight_125 hpl2.1 ?_
      first | refine xn_icmp_ge hE d_M_fight_128 (fun h => ?_) (fun h => ?_) | refine x_icmp_ge hE d_M_fight_128 (fun h => ?_) (fun h => ?_)
      · skip
        have e0 : u = n := by omega
        subst e0
        exact x_ret hc d_M_fight_228 (⟨hpl2, hlo, hf⟩)
      · exact absurd h (by omega)
    | succ m ih =>
      intro u τ hu hpl2 hlo hf
      have hat := hpl2.2 u (by omega)
      simp only [Nat.lt_irrefl, if_false] at hat
      have hx := hok u (by omega)
      have hb := hx.1
      have hle := am_lost_le P n u
      have hlo1 := hlo u (by omega)
      obtain ⟨h1, h2, h3, h4, h5, h6, h7, h8⟩ := hat
      have next : ∀ (τ2 : xk_St) (w : Int32), xm_at τ2 u (am_hurt (P u) (am_lost P n u)) → xm_one u τ τ2 → xk_X K (xk_vw (xm G)) τ2 222 [(2, .int w), (0, .ref (xk_wA (xm G) 0)), (1, .int (nI u))] [] := by
        intro τ2 w g1 g2
        refine x_iinc 2 (nI (_ + 1)) [(1, _), (2, _), (0, _)] hE d_M_fight_222 rfl (nI_inc _) (by decide) rfl ?_
        refine x_goto hE d_M_fight_225 ?_
        refine x_lv [2, 0] (lv' := [(0, _), (1, _)]) rfl ?_
        refine ih (u + 1) τ2 (by omega) ?_ (fun v hv => by rw [g2.2.1 26 (by omega)]; exact hlo v hv) (hf.tr g2.fr)
        have h5 := hpl2.set g1 g2
        have e5 : (am_set (fun v => if v < u then am_hurt (P v) (am_lost P n v) else P v) u (am_hurt (P u) (am_lost P n u))) = (fun v => if v < u + 1 then am_hurt (P v) (am_lost P n v) else P v) := by
          funext v
          by_cases e : v = u
          · subst e; rw [am_set_s, if_pos (by omega)]
          · rw [am_set_n e]
            by_cases e2 : v < u
            · rw [if_pos e2, if_pos (by omega)]
            · rw [if_neg e2, if_neg (by omega)]
        rw [e5] at h5
        exact h5
      have store : ∀ (w v : Nat), v = am_pts (P u) - am_lost P n u → w = (if 0 < am_pts (P u) ∧ am_pts (P u) ≤ am_lost P n u then 1 else 0) → xk_X K (xk_vw (xm G)) τ 198 [(2, .int (nI w)), (0, .ref (xk_wA (xm G) 0)), (1, .int (nI u))] [.int (nI v), .int (nI u), .ref (xk_wA (xm G) 9)] := by
        intro w v hv hw
        have hone1 : xm_one u τ (xk_up τ 9 u (nI v)) := xm_one.up (by decide) (by decide) (by decide)
        have hw2 : w < 2 := by rw [hw]; split <;> omega
        refine x_iast hc rfl rfl (by omega) (by decide) d_M_fight_198 ?_
        refine x_iload_n hE d_M_fight_199 0 rfl ?_
        first | refine xn_if_eq hE d_M_fight_200 (fun z => ?_) (fun z => ?_) | refine x_if_eq hE d_M_fight_200 (fun z => ?_) (fun z => ?_)
        · skip
          refine next _ _ ?_ hone1
          have hno : ¬ (0 < am_pts (P u) ∧ am_pts (P u) ≤ am_lost P n u) := fun q => by rw [if_pos q] at hw; omega
          unfold am_hurt
          by_cases hd : am_pts (P u) ≤ am_lost P n u
          · rw [if_pos hd]
            obtain ⟨d1, d2, d3, d4⟩ := hx.2.2.2.2.2.2.2.2 (by omega)
            rw [d1] at h3
            rw [d2] at h4
            rw [d3] at h5
            rw [d4] at h6
            refine ⟨?_, fun q => absurd q (Nat.lt_irrefl 0), ?_, ?_, ?_, ?_, Nat.zero_le _, fun i hi => absurd hi (Nat.not_lt_zero _)⟩
            all_goals simp (disch := omega) only [xk_up_s, xk_up_o]
            · show nI v = nI 0
              congr 1
              omega
            · exact h3
            · exact h4
            · exact h5
            · exact h6
          · rw [if_neg hd]
            refine ⟨?_, fun _ => ?_, ?_, ?_, ?_, ?_, h7, fun i hi => ?_⟩
            all_goals simp (disch := omega) only [xk_up_s, xk_up_o]
            · show nI v = nI (am_pts (P u) - am_lost P n u)
              rw [hv]
            · exact h2 (by omega)
            · exact h3
            · exact h4
            · exact h5
            · exact h6
            · exact h8 i hi
        · skip
          have hyes : 0 < am_pts (P u) ∧ am_pts (P u) ≤ am_lost P n u := Classical.byContradiction (fun q => by rw [if_neg q] at hw; omega)
          refine x_aload_n hE d_M_fight_203 1 rfl ?_
          refine x_iload_n hE d_M_fight_204 2 rfl ?_
          refine ca_M_121 hc d_M_fight_205 (k_M_stop (by omega)) (fun τ hq => ?_)
          obtain rfl := hq
          refine x_aload_n hE d_M_fight_208 1 rfl ?_
          refine gf_M_53 hc d_M_fight_209 ?_
          refine x_iload_n hE d_M_fight_212 2 rfl ?_
          refine x_iconst (nI 0) hE d_M_fight_213 (by decide) ?_
          refine x_iast hc rfl rfl (by omega) (by decide) d_M_fight_214 ?_
          refine x_aload_n hE d_M_fight_215 1 rfl ?_
          refine gf_M_47 hc d_M_fight_216 ?_
          refine x_iload_n hE d_M_fight_219 2 rfl ?_
          refine x_iconst (nI 0) hE d_M_fight_220 (by decide) ?_
          refine x_iast hc rfl rfl (by omega) (by decide) d_M_fight_221 ?_
          refine next _ _ ?_ ((((hone1.tr (xm_one.up (by decide) (by decide) (by decide))).tr (xm_one.up (by decide) (by decide) (by decide))).tr (xm_one.up (by decide) (by decide) (by decide))).tr (xm_one.up (by decide) (by decide) (by decide)))
          unfold am_hurt
          rw [if_pos hyes.2]
          refine ⟨?_, fun q => absurd q (Nat.lt_irrefl 0), ?_, ?_, ?_, ?_, Nat.zero_le _, fun i hi => absurd hi (Nat.not_lt_zero _)⟩
          all_goals simp (disch := omega) only [xk_up_s, xk_up_o]
          · show nI v = nI 0
            congr 1
            omega
          · rfl
          · rfl
          · rfl
          · rfl
      have sub : ∀ (w : Nat), w = (if 0 < am_pts (P u) ∧ am_pts (P u) ≤ am_lost P n u then 1 else 0) → xk_X K (xk_vw (xm G)) τ 160 [(0, .ref (xk_wA (xm G) 0)), (1, .int (nI u))] [.int (nI w)] := by
        intro w hw
        refine x_istore_n [(2, _), (0, _), (1, _)] hE d_M_fight_160 rfl (by decide) rfl ?_
        refine x_aload_n hE d_M_fight_161 1 rfl ?_
        refine gf_M_35 hc d_M_fight_162 ?_
        refine x_iload_n hE d_M_fight_165 2 rfl ?_
        refine x_aload_n hE d_M_fight_166 1 rfl ?_
        refine gf_M_35 hc d_M_fight_167 ?_
        refine x_iload_n hE d_M_fight_170 2 rfl ?_
        refine x_iald hc rfl rfl (by omega) (by decide) d_M_fight_171 h1 ?_
        refine x_aload_n hE d_M_fight_172 1 rfl ?_
        refine gf_M_86 hc d_M_fight_173 ?_
        refine x_iload_n hE d_M_fight_176 2 rfl ?_
        refine x_iald hc rfl rfl (by omega) (by decide) d_M_fight_177 hlo1 ?_
        first | refine xn_icmp_le hE d_M_fight_178 (fun z => ?_) (fun z => ?_) | refine x_icmp_le hE d_M_fight_178 (fun z => ?_) (fun z => ?_)
        · skip
          refine x_iconst (nI 0) hE d_M_fight_197 (by decide) ?_
          exact store w 0 (by omega) hw
        · skip
          refine x_aload_n hE d_M_fight_181 1 rfl ?_
          refine gf_M_35 hc d_M_fight_182 ?_
          refine x_iload_n hE d_M_fight_185 2 rfl ?_
          refine x_iald hc rfl rfl (by omega) (by decide) d_M_fight_186 h1 ?_
          refine x_aload_n hE d_M_fight_187 1 rfl ?_
          refine gf_M_86 hc d_M_fight_188 ?_
          refine x_iload_n hE d_M_fight_191 2 rfl ?_
          refine x_iald hc rfl rfl (by omega) (by decide) d_M_fight_192 hlo1 ?_
          first | refine xn_isub hE d_M_fight_193 ?_ | refine x_isub hE d_M_fight_193 ?_
          refine x_goto hE d_M_fight_194 ?_
          exact store w _ rfl hw
      refine x_iload_n hE d_M_fight_123 1 rfl ?_
      refine x_aload_n hE d_M_fight_124 0 rfl ?_
      refine gf_M_89 hc d_M_fight_125 hpl2.1 ?_
      first | refine xn_icmp_ge hE d_M_fight_128 (fun h => ?_) (fun h => ?_) | refine x_icmp_ge hE d_M_fight_128 (fun h => ?_) (fun h => ?_)
      · exact absurd h (by omega)
      · skip
        refine x_aload_n hE d_M_fight_131 0 rfl ?_
        refine gf_M_35 hc d_M_fight_132 ?_
        refine x_iload_n hE d_M_fight_135 1 rfl ?_
        refine x_iald hc rfl rfl (by omega) (by decide) d_M_fight_136 h1 ?_
        first | refine xn_if_le hE d_M_fight_137 (fun z => ?_) (fun z => ?_) | refine x_if_le hE d_M_fight_137 (fun z => ?_) (fun z => ?_)
        · skip
          refine x_iconst (nI 0) hE d_M_fight_159 (by decide) ?_
          exact sub 0 (by rw [if_neg (by omega)])
        · skip
          refine x_aload_n hE d_M_fight_140 0 rfl ?_
          refine gf_M_35 hc d_M_fight_141 ?_
          refine x_iload_n hE d_M_fight_144 1 rfl ?_
          refine x_iald hc rfl rfl (by omega) (by decide) d_M_fight_145 h1 ?_
          refine x_aload_n hE d_M_fight_146 0 rfl ?_
          refine gf_M_86 hc d_M_fight_147 ?_
          refine x_iload_n hE d_M_fight_150 1 rfl ?_
          refine x_iald hc rfl rfl (by omega) (by decide) d_M_fight_151 hlo1 ?_
          first | refine xn_icmp_gt hE d_M_fight_152 (fun y => ?_) (fun y => ?_) | refine x_icmp_gt hE d_M_fight_152 (fun y => ?_) (fun y => ?_)
          · skip
            refine x_iconst (nI 0) hE d_M_fight_159 (by decide) ?_
            exact sub 0 (by rw [if_neg (by omega)])
          · skip
            refine x_iconst (nI 1) hE d_M_fight_155 (by decide) ?_
            refine x_goto hE d_M_fight_156 ?_
            exact sub 1 (by rw [if_pos (by omega)])
  have second : ∀ (m u : Nat) (τ : xk_St), u + m = n → (∀ v, v < n → τ.1 26 v = nI (am_lost P u v)) → τ.2 = σ.2 → (∀ k, k ≠ 26 → τ.1 k = σ.1 k) → xk_X K (xk_vw (xm G)) τ 25 [(0, .ref (xk_wA (xm G) 0)), (1, .int (nI u))] [] := by
    intro m
    induction m with
    | zero =>
      intro u τ hu hlo h2 hk
      have hpl2 : xm_pl n P τ := hpl.mv (fun k hk2 => hk k (by omega))
      refine x_iload_n hE d_M_fight_25 1 rfl ?_
      refine x_aload_n hE d_M_fight_26 0 rfl ?_
      refine gf_M_89 hc d_M_fight_27 hpl2.1 ?_
      first | refine xn_icmp_ge hE d_M_fight_30 (fun h => ?_) (fun h => ?_) | refine x_icmp_ge hE d_M_fight_30 (fun h => ?_) (fun h => ?_)
      · skip
        refine x_iconst (nI 0) hE d_M_fight_121 (by decide) ?_
        refine x_istore_n [(1, _), (0, _)] hE d_M_fight_122 rfl (by decide) rfl ?_
        refine x_lv [1, 0] (lv' := [(0, _), (1, _)]) rfl ?_
        have e0 : u = n := by omega
        subst e0
        refine third u 0 τ (by omega) ?_ hlo ⟨h2, fun k hk2 => hk k (by omega)⟩
        simp only [Nat.not_lt_zero, if_false]
        exact hpl2
      · exact absurd h (by omega)
    | succ m ih =>
      intro u τ hu hlo h2 hk
      have hpl2 : xm_pl n P τ := hpl.mv (fun k hk2 => hk k (by omega))
      have hat := hpl2.2 u (by omega)
      have hx := hok u (by omega)
      have ho := hx.2.2.1
      have hb := hx.1
      have next : ∀ (τ2 : xk_St) (w : Int32), (∀ v, v < n → τ2.1 26 v = nI (am_lost P (u + 1) v)) → τ2.2 = σ.2 → (∀ k, k ≠ 26 → τ2.1 k = σ.1 k) → xk_X K (xk_vw (xm G)) τ2 115 [(2, .int w), (0, .ref (xk_wA (xm G) 0)), (1, .int (nI u))] [] := by
        intro τ2 w g1 g2 g3
        refine x_iinc 2 (nI (_ + 1)) [(1, _), (2, _), (0, _)] hE d_M_fight_115 rfl (nI_inc _) (by decide) rfl ?_
        refine x_goto hE d_M_fight_118 ?_
        refine x_lv [2, 0] (lv' := [(0, _), (1, _)]) rfl ?_
        exact ih (u + 1) τ2 (by omega) g1 g2 g3
      have skip : am_hits P u = false → xk_X K (xk_vw (xm G)) τ 94 [(0, .ref (xk_wA (xm G) 0)), (1, .int (nI u))] [] := by
        intro hh
        refine x_iconst (nI 0) hE d_M_fight_94 (by decide) ?_
        refine x_istore_n [(2, _), (0, _), (1, _)] hE d_M_fight_95 rfl (by decide) rfl ?_
        refine x_iload_n hE d_M_fight_96 0 rfl ?_
        first | refine xn_if_eq hE d_M_fight_97 (fun z => ?_) (fun z => ?_) | refine x_if_eq hE d_M_fight_97 (fun z => ?_) (fun z => ?_)
        · refine next τ _ (fun v hv => ?_) h2 hk
          simp only [am_lost]
          rw [hh, if_neg (by simp)]
          exact hlo v hv
        · exact absurd rfl z
      refine x_iload_n hE d_M_fight_25 1 rfl ?_
      refine x_aload_n hE d_M_fight_26 0 rfl ?_
      refine gf_M_89 hc d_M_fight_27 hpl2.1 ?_
      first | refine xn_icmp_ge hE d_M_fight_30 (fun h => ?_) (fun h => ?_) | refine x_icmp_ge hE d_M_fight_30 (fun h => ?_) (fun h => ?_)
      · exact absurd h (by omega)
      · skip
        refine x_aload_n hE d_M_fight_33 0 rfl ?_
        refine gf_M_35 hc d_M_fight_34 ?_
        refine x_iload_n hE d_M_fight_37 1 rfl ?_
        refine x_iald hc rfl rfl (by omega) (by decide) d_M_fight_38 hat.1 ?_
        first | refine xn_if_le hE d_M_fight_39 (fun hz => ?_) (fun hz => ?_) | refine x_if_le hE d_M_fight_39 (fun hz => ?_) (fun hz => ?_)
        · refine skip ?_
          have := (hx.2.2.2.2.2.2.2.2 hz).1
          simp [am_hits, this]
        · skip
          refine x_aload_n hE d_M_fight_42 0 rfl ?_
          refine gf_M_41 hc d_M_fight_43 ?_
          refine x_iload_n hE d_M_fight_46 1 rfl ?_
          refine x_iald hc rfl rfl (by omega) (by decide) d_M_fight_47 hat.2.2.1 ?_
          refine x_iconst (nI 2) hE d_M_fight_48 (by decide) ?_
          first | refine xn_icmp_ne hE d_M_fight_49 (fun ho2 => ?_) (fun ho2 => ?_) | refine x_icmp_ne hE d_M_fight_49 (fun ho2 => ?_) (fun ho2 => ?_)
          · exact skip (by simp [am_hits, ho2])
          · skip
            have haim := hx.2.2.2.2.1 ho2
            have haty := hpl2.2 _ haim
            have hy := hok _ haim
            have hby := hy.1
            refine x_aload_n hE d_M_fight_52 0 rfl ?_
            refine gf_M_35 hc d_M_fight_53 ?_
            refine x_aload_n hE d_M_fight_56 0 rfl ?_
            refine gf_M_44 hc d_M_fight_57 ?_
            refine x_iload_n hE d_M_fight_60 1 rfl ?_
            refine x_iald hc rfl rfl (by omega) (by decide) d_M_fight_61 hat.2.2.2.1 ?_
            refine x_iald hc rfl rfl (by omega) (by decide) d_M_fight_62 haty.1 ?_
            first | refine xn_if_le hE d_M_fight_63 (fun h3 => ?_) (fun h3 => ?_) | refine x_if_le hE d_M_fight_63 (fun h3 => ?_) (fun h3 => ?_)
            · exact skip (by simp [am_hits, h3])
            · skip
              refine x_aload_n hE d_M_fight_66 0 rfl ?_
              refine gf_M_38 hc d_M_fight_67 ?_
              refine x_iload_n hE d_M_fight_70 1 rfl ?_
              refine x_iald hc rfl rfl (by omega) (by decide) d_M_fight_71 (hat.2.1 hz) ?_
              refine x_aload_n hE d_M_fight_72 0 rfl ?_
              refine gf_M_38 hc d_M_fight_73 ?_
              refine x_aload_n hE d_M_fight_76 0 rfl ?_
              refine gf_M_44 hc d_M_fight_77 ?_
              refine x_iload_n hE d_M_fight_80 1 rfl ?_
              refine x_iald hc rfl rfl (by omega) (by decide) d_M_fight_81 hat.2.2.2.1 ?_
              refine x_iald hc rfl rfl (by omega) (by decide) d_M_fight_82 (haty.2.1 h3) ?_
              refine ca_M_125 hc d_M_fight_83 (k_M_distance hx.2.1 hy.2.1) (fun r τ hq => ?_)
              obtain ⟨rfl, rfl⟩ := hq
              have hdl : am_dist (am_til (P u)) (am_til (P (am_aim (P u)))) < 2 ^ 31 := by
                have h1 := hx.2.1
                have h2 := hy.2.1
                unfold am_dist am_dif
                omega
              refine x_iconst (nI 1) hE d_M_fight_86 (by decide) ?_
              first | refine xn_icmp_ne hE d_M_fight_87 (fun h4 => ?_) (fun h4 => ?_) | refine x_icmp_ne hE d_M_fight_87 (fun h4 => ?_) (fun h4 => ?_)
              · exact skip (by simp [am_hits, h4])
              · skip
                have hh : am_hits P u = true := by simp [am_hits, ho2, h3, h4]
                have hle := am_lost_le P u (am_aim (P u))
                refine x_iconst (nI 1) hE d_M_fight_90 (by decide) ?_
                refine x_goto hE d_M_fight_91 ?_
                refine x_istore_n [(2, _), (0, _), (1, _)] hE d_M_fight_95 rfl (by decide) rfl ?_
                refine x_iload_n hE d_M_fight_96 0 rfl ?_
                first | refine xn_if_eq hE d_M_fight_97 (fun z => ?_) (fun z => ?_) | refine x_if_eq hE d_M_fight_97 (fun z => ?_) (fun z => ?_)
                · exact absurd z (by decide)
                · skip
                  refine x_aload_n hE d_M_fight_100 1 rfl ?_
                  refine gf_M_86 hc d_M_fight_101 ?_
                  refine x_aload_n hE d_M_fight_104 1 rfl ?_
                  refine gf_M_44 hc d_M_fight_105 ?_
                  refine x_iload_n hE d_M_fight_108 2 rfl ?_
                  refine x_iald hc rfl rfl (by omega) (by decide) d_M_fight_109 hat.2.2.2.1 ?_
                  refine x_dup2 hE d_M_fight_110 rfl rfl ?_
                  refine x_iald hc rfl rfl (by omega) (by decide) d_M_fight_111 (hlo _ haim) ?_
                  refine x_iconst (nI 3) hE d_M_fight_112 (by decide) ?_
                  first | refine xn_iadd hE d_M_fight_113 ?_ | refine x_iadd hE d_M_fight_113 ?_
                  refine x_iast hc rfl rfl (by omega) (by decide) d_M_fight_114 ?_
                  refine next _ _ (fun v hv => ?_) h2 (fun k hk2 => by rw [xk_up_o hk2]; exact hk k hk2)
                  simp only [am_lost]
                  rw [hh, if_pos rfl, xk_up_s]
                  by_cases e : v = am_aim (P u)
                  · subst e; rw [if_pos rfl, am_set_s]
                  · rw [if_neg e, am_set_n e]; exact hlo v hv
  have first : ∀ (m u : Nat) (τ : xk_St), u + m = n → (∀ v, v < u → τ.1 26 v = nI 0) → τ.2 = σ.2 → (∀ k, k ≠ 26 → τ.1 k = σ.1 k) → xk_X K (xk_vw (xm G)) τ 2 [(0, .ref (xk_wA (xm G) 0)), (1, .int (nI u))] [] := by
    intro m
    induction m with
    | zero =>
      intro u τ hu hlo h2 hk
      have hc2 : τ.1 0 1 = nI n := by rw [hk 0 (by decide)]; exact hpl.1
      refine x_iload_n hE d_M_fight_2 1 rfl ?_
      refine x_aload_n hE d_M_fight_3 0 rfl ?_
      refine gf_M_89 hc d_M_fight_4 hc2 ?_
      first | refine xn_icmp_ge hE d_M_fight_7 (fun h => ?_) (fun h => ?_) | refine x_icmp_ge hE d_M_fight_7 (fun h => ?_) (fun h => ?_)
      · skip
        refine x_iconst (nI 0) hE d_M_fight_23 (by decide) ?_
        refine x_istore_n [(1, _), (0, _)] hE d_M_fight_24 rfl (by decide) rfl ?_
        refine x_lv [1, 0] (lv' := [(0, _), (1, _)]) rfl ?_
        exact second n 0 τ (by omega) (fun v hv => hlo v (by omega)) h2 hk
      · exact absurd h (by omega)
    | succ m ih =>
      intro u τ hu hlo h2 hk
      have hc2 : τ.1 0 1 = nI n := by rw [hk 0 (by decide)]; exact hpl.1
      refine x_iload_n hE d_M_fight_2 1 rfl ?_
      refine x_aload_n hE d_M_fight_3 0 rfl ?_
      refine gf_M_89 hc d_M_fight_4 hc2 ?_
      first | refine xn_icmp_ge hE d_M_fight_7 (fun h => ?_) (fun h => ?_) | refine x_icmp_ge hE d_M_fight_7 (fun h => ?_) (fun h => ?_)
      · exact absurd h (by omega)
      · skip
        refine x_aload_n hE d_M_fight_10 0 rfl ?_
        refine gf_M_86 hc d_M_fight_11 ?_
        refine x_iload_n hE d_M_fight_14 1 rfl ?_
        refine x_iconst (nI 0) hE d_M_fight_15 (by decide) ?_
        refine x_iast hc rfl rfl (by omega) (by decide) d_M_fight_16 ?_
        refine x_iinc 1 (nI (_ + 1)) [(1, _), (0, _)] hE d_M_fight_17 rfl (nI_inc _) (by decide) rfl ?_
        refine x_goto hE d_M_fight_20 ?_
        refine x_lv [1, 0] (lv' := [(0, _), (1, _)]) rfl ?_
        refine ih (u + 1) _ (by omega) (fun v hv => ?_) h2 (fun k hk2 => by rw [xk_up_o hk2]; exact hk k hk2)
        rw [xk_up_s]
        by_cases e : v = u
        · rw [if_pos e]
        · rw [if_neg e]; exact hlo v (by omega)
  exact first n 0 σ (by omega) (fun v hv => absurd hv (Nat.not_lt_zero _)) rfl (fun _ _ => rfl)
theorem xm_pl.cong {Q : am_P} (h : xm_pl n P σ) (e : ∀ u, u < n → P u = Q u) : xm_pl n Q σ := ⟨h.1, fun u hu => by rw [← e u hu]; exact h.2 u hu⟩
theorem k_M_play (hn : n ≤ 8) (hpl : xm_pl n P σ) (hok : am_okP n P) (hW : xm_W W σ) {cnt t : Nat} {L : am_L} (ht : t < 2 ^ 31) (hL : xm_L cnt L σ) (hLo : am_okL n cnt L) : xk_M (xm G) 4 y_M_play [.ref (xk_wA (xm G) 0), .int (nI t)] σ (xk_pi (fun r τ => r = am_num W n cnt L t P ∧ xm_pl n (am_tick W n cnt L t P) τ ∧ xm_fr σ τ)) := by
  refine xk_enter (by decide) (Nat.le_of_ble_eq_true rfl) (fun K hE hc => ?_)
  show xk_X K _ _ 0 [(0, _), (1, _)] []
  refine x_aload_n hE d_M_play_0 0 rfl ?_
  refine x_iload_n hE d_M_play_1 1 rfl ?_
  refine ca_M_136 hc d_M_play_2 (k_M_obey hn hpl hok hL hLo) (fun τ hq => ?_)
  obtain ⟨o1, o2⟩ := hq
  have hokO := am_okP_obey (t := nI t) hok hLo cnt (Nat.le_refl _)
  refine x_iconst (nI 0) hE d_M_play_5 (by decide) ?_
  refine x_istore_n [(2, _), (0, _), (1, _)] hE d_M_play_6 rfl (by decide) rfl ?_
  refine x_lv [1, 2, 0] (lv' := [(0, _), (1, _), (2, _)]) rfl ?_
  have hash : ∀ (m u : Nat) (τ : xk_St), u + m = n → xm_pl n (am_tick W n cnt L t P) τ → xm_fr σ τ → xk_X K (xk_vw (xm G)) τ 124 [(0, .ref (xk_wA (xm G) 0)), (1, .int (nI t)), (2, .int (am_sum (am_tick W n cnt L t P) u)), (3, .int (nI u))] [] := by
    intro m
    induction m with
    | zero =>
      intro u τ hu h1 h2
      refine x_iload_n hE d_M_play_124 3 rfl ?_
      refine x_aload_n hE d_M_play_125 0 rfl ?_
      refine gf_M_89 hc d_M_play_126 h1.1 ?_
      first | refine xn_icmp_ge hE d_M_play_129 (fun h => ?_) (fun h => ?_) | refine x_icmp_ge hE d_M_play_129 (fun h => ?_) (fun h => ?_)
      · skip
        refine x_iload_n hE d_M_play_195 2 rfl ?_
        have e0 : u = n := by omega
        subst e0
        exact x_iret hc d_M_play_196 (⟨rfl, h1, h2⟩)
      · exact absurd h (by omega)
    | succ m ih =>
      intro u τ hu h1 h2
      have hat := h1.2 u (by omega)
      have hb := (am_okP_tick (W := W) (t := t) hok hLo u (by omega)).1
      have next : ∀ v : Int32, v = (if am_pts (am_tick W n cnt L t P u) = 0 then nI 0 else nI (am_til (am_tick W n cnt L t P u))) → xk_X K (xk_vw (xm G)) τ 165 [(0, .ref (xk_wA (xm G) 0)), (1, .int (nI t)), (2, .int (am_sum (am_tick W n cnt L t P) u)), (3, .int (nI u))] [.int v, .int (nI 31 * am_sum (am_tick W n cnt L t P) u + nI 64 * nI (am_pts (am_tick W n cnt L t P u)))] := by
        intro v hv
        refine x_iadd hE d_M_play_165 ?_
        refine x_istore_n [(2, _), (0, _), (1, _), (3, _)] hE d_M_play_166 rfl (by decide) rfl ?_
        refine x_bipush (nI 31) hE d_M_play_167 (by decide) ?_
        refine x_iload_n hE d_M_play_169 0 rfl ?_
        refine x_imul hE d_M_play_170 ?_
        refine x_bipush (nI 8) hE d_M_play_171 (by decide) ?_
        refine x_aload_n hE d_M_play_173 1 rfl ?_
        refine gf_M_47 hc d_M_play_174 ?_
        refine x_iload_n hE d_M_play_177 3 rfl ?_
        refine x_iald hc rfl rfl (by omega) (by decide) d_M_play_178 hat.2.2.2.2.1 ?_
        refine x_imul hE d_M_play_179 ?_
        refine x_iadd hE d_M_play_180 ?_
        refine x_aload_n hE d_M_play_181 1 rfl ?_
        refine gf_M_41 hc d_M_play_182 ?_
        refine x_iload_n hE d_M_play_185 3 rfl ?_
        refine x_iald hc rfl rfl (by omega) (by decide) d_M_play_186 hat.2.2.1 ?_
        refine x_iadd hE d_M_play_187 ?_
        refine x_istore_n [(2, _), (0, _), (1, _), (3, _)] hE d_M_play_188 rfl (by decide) rfl ?_
        refine x_iinc 3 (nI (_ + 1)) [(3, _), (2, _), (0, _), (1, _)] hE d_M_play_189 rfl (nI_inc _) (by decide) rfl ?_
        refine x_goto hE d_M_play_192 ?_
        refine x_lv [2, 3, 1, 0] (lv' := [(0, _), (1, _), (2, _), (3, _)]) rfl ?_
        have e9 := ih (u + 1) τ (by omega) h1 h2
        simp only [am_sum] at e9
        rw [hv]
        exact e9
      refine x_iload_n hE d_M_play_124 3 rfl ?_
      refine x_aload_n hE d_M_play_125 0 rfl ?_
      refine gf_M_89 hc d_M_play_126 h1.1 ?_
      first | refine xn_icmp_ge hE d_M_play_129 (fun h => ?_) (fun h => ?_) | refine x_icmp_ge hE d_M_play_129 (fun h => ?_) (fun h => ?_)
      · exact absurd h (by omega)
      · skip
        refine x_bipush (nI 31) hE d_M_play_132 (by decide) ?_
        refine x_iload_n hE d_M_play_134 2 rfl ?_
        refine x_imul hE d_M_play_135 ?_
        refine x_bipush (nI 64) hE d_M_play_136 (by decide) ?_
        refine x_aload_n hE d_M_play_138 0 rfl ?_
        refine gf_M_35 hc d_M_play_139 ?_
        refine x_iload_n hE d_M_play_142 3 rfl ?_
        refine x_iald hc rfl rfl (by omega) (by decide) d_M_play_143 hat.1 ?_
        refine x_imul hE d_M_play_144 ?_
        refine x_iadd hE d_M_play_145 ?_
        refine x_aload_n hE d_M_play_146 0 rfl ?_
        refine gf_M_35 hc d_M_play_147 ?_
        refine x_iload_n hE d_M_play_150 3 rfl ?_
        refine x_iald hc rfl rfl (by omega) (by decide) d_M_play_151 hat.1 ?_
        first | refine xn_if_le hE d_M_play_152 (fun z => ?_) (fun z => ?_) | refine x_if_le hE d_M_play_152 (fun z => ?_) (fun z => ?_)
        · skip
          refine x_iconst (nI 0) hE d_M_play_164 (by decide) ?_
          exact next _ (by rw [if_pos z])
        · skip
          refine x_aload_n hE d_M_play_155 0 rfl ?_
          refine gf_M_38 hc d_M_play_156 ?_
          refine x_iload_n hE d_M_play_159 3 rfl ?_
          refine x_iald hc rfl rfl (by omega) (by decide) d_M_play_160 (hat.2.1 z) ?_
          refine x_goto hE d_M_play_161 ?_
          exact next _ (by rw [if_neg (by omega)])
  have fin : ∀ (τ : xk_St) (w : Int32), xm_pl n (am_tick W n cnt L t P) τ → xm_fr σ τ → xk_X K (xk_vw (xm G)) τ 119 [(0, .ref (xk_wA (xm G) 0)), (1, .int (nI t)), (2, .int w)] [] := by
    intro τ w h1 h2
    refine x_bipush (nI 17) hE d_M_play_119 (by decide) ?_
    refine x_istore_n [(2, _), (0, _), (1, _)] hE d_M_play_121 rfl (by decide) rfl ?_
    refine x_iconst (nI 0) hE d_M_play_122 (by decide) ?_
    refine x_istore_n [(3, _), (2, _), (0, _), (1, _)] hE d_M_play_123 rfl (by decide) rfl ?_
    refine x_lv [2, 3, 1, 0] (lv' := [(0, _), (1, _), (2, _), (3, _)]) rfl ?_
    exact hash n 0 τ (by omega) h1 h2
  have rest : ∀ (m u : Nat) (τ : xk_St), u + m = n → t % 4 = 3 → xm_pl n (fun v => if v < u then am_tick W n cnt L t P v else am_blow n (am_moves W n (am_obey L (nI t) P cnt) n) v) τ → (∀ v, v < n → τ.1 26 v = nI (am_lost (am_moves W n (am_obey L (nI t) P cnt) n) n v)) → xm_fr σ τ → xk_X K (xk_vw (xm G)) τ 50 [(0, .ref (xk_wA (xm G) 0)), (1, .int (nI t)), (2, .int (nI u))] [] := by
    intro m
    induction m with
    | zero =>
      intro u τ hu h4 h1 hlo h2
      refine x_iload_n hE d_M_play_50 2 rfl ?_
      refine x_aload_n hE d_M_play_51 0 rfl ?_
      refine gf_M_89 hc d_M_play_52 h1.1 ?_
      first | refine xn_icmp_ge hE d_M_play_55 (fun h => ?_) (fun h => ?_) | refine x_icmp_ge hE d_M_play_55 (fun h => ?_) (fun h => ?_)
      · refine fin τ _ (h1.cong (fun v hv => ?_)) h2
        rw [if_pos (by omega)]
      · exact absurd h (by omega)
    | succ m ih =>
      intro u τ hu h4 h1 hlo h2
      have hok2 := am_okP_moves (W := W) hokO n (Nat.le_refl _)
      have hat := h1.2 u (by omega)
      simp only [Nat.lt_irrefl, if_false] at hat
      have hxb : am_ok n (am_blow n (am_moves W n (am_obey L (nI t) P cnt) n) u) := by
        unfold am_blow
        rw [if_pos (by omega)]
        exact am_ok_hurt (hok2 u (by omega))
      have hb := hxb.1
      have ho := hxb.2.2.1
      have hle := am_lost_le (am_moves W n (am_obey L (nI t) P cnt) n) n u
      have etick : am_tick W n cnt L t P u = am_rest (am_blow n (am_moves W n (am_obey L (nI t) P cnt) n) u) (am_lost (am_moves W n (am_obey L (nI t) P cnt) n) n u) := by
        unfold am_tick am_calm
        rw [if_pos ⟨by omega, h4⟩]
      have next : ∀ (τ2 : xk_St), xm_at τ2 u (am_tick W n cnt L t P u) → xm_one u τ τ2 → xk_X K (xk_vw (xm G)) τ2 113 [(0, .ref (xk_wA (xm G) 0)), (1, .int (nI t)), (2, .int (nI u))] [] := by
        intro τ2 g1 g2
        refine x_iinc 2 (nI (_ + 1)) [(2, _), (0, _), (1, _)] hE d_M_play_113 rfl (nI_inc _) (by decide) rfl ?_
        refine x_goto hE d_M_play_116 ?_
        refine x_lv [1, 2, 0] (lv' := [(0, _), (1, _), (2, _)]) rfl ?_
        refine ih (u + 1) τ2 (by omega) h4 ?_ (fun v hv => by rw [g2.2.1 26 (by omega)]; exact hlo v hv) (h2.tr g2.fr)
        refine (h1.set g1 g2).cong (fun v hv => ?_)
        by_cases e : v = u
        · subst e; rw [am_set_s, if_pos (by omega)]
        · rw [am_set_n e]
          by_cases e2 : v < u
          · rw [if_pos e2, if_pos (by omega)]
          · rw [if_neg e2, if_neg (by omega)]
      have no : ¬ (0 < am_pts (am_blow n (am_moves W n (am_obey L (nI t) P cnt) n) u) ∧ am_ord (am_blow n (am_moves W n (am_obey L (nI t) P cnt) n) u) = 0 ∧ am_lost (am_moves W n (am_obey L (nI t) P cnt) n) n u = 0 ∧ am_pts (am_blow n (am_moves W n (am_obey L (nI t) P cnt) n) u) < 20) → xk_X K (xk_vw (xm G)) τ 113 [(0, .ref (xk_wA (xm G) 0)), (1, .int (nI t)), (2, .int (nI u))] [] := by
        intro hno
        refine next τ ?_ xm_one.rf
        rw [etick]
        unfold am_rest
        rw [if_neg hno]
        exact hat
      refine x_iload_n hE d_M_play_50 2 rfl ?_
      refine x_aload_n hE d_M_play_51 0 rfl ?_
      refine gf_M_89 hc d_M_play_52 h1.1 ?_
      first | refine xn_icmp_ge hE d_M_play_55 (fun h => ?_) (fun h => ?_) | refine x_icmp_ge hE d_M_play_55 (fun h => ?_) (fun h => ?_)
      · exact absurd h (by omega)
      · skip
        refine x_iload_n hE d_M_play_58 1 rfl ?_
        refine x_iconst (nI 4) hE d_M_play_59 (by decide) ?_
        first | refine xn_irem hE d_M_play_60 ?_ | refine x_irem hE d_M_play_60 (by decide) ?_
        refine x_iconst (nI 3) hE d_M_play_61 (by decide) ?_
        first | refine xn_icmp_ne hE d_M_play_62 (fun h5 => ?_) (fun h5 => ?_) | refine x_icmp_ne hE d_M_play_62 (fun h5 => ?_) (fun h5 => ?_)
        · exact absurd h4 h5
        · skip
          refine x_aload_n hE d_M_play_65 0 rfl ?_
          refine gf_M_35 hc d_M_play_66 ?_
          refine x_iload_n hE d_M_play_69 2 rfl ?_
          refine x_iald hc rfl rfl (by omega) (by decide) d_M_play_70 hat.1 ?_
          first | refine xn_if_le hE d_M_play_71 (fun z1 => ?_) (fun z1 => ?_) | refine x_if_le hE d_M_play_71 (fun z1 => ?_) (fun z1 => ?_)
          · exact no (by omega)
          · skip
            refine x_aload_n hE d_M_play_74 0 rfl ?_
            refine gf_M_35 hc d_M_play_75 ?_
            refine x_iload_n hE d_M_play_78 2 rfl ?_
            refine x_iald hc rfl rfl (by omega) (by decide) d_M_play_79 hat.1 ?_
            refine x_bipush (nI 20) hE d_M_play_80 (by decide) ?_
            first | refine xn_icmp_ge hE d_M_play_82 (fun z2 => ?_) (fun z2 => ?_) | refine x_icmp_ge hE d_M_play_82 (fun z2 => ?_) (fun z2 => ?_)
            · exact no (by omega)
            · skip
              refine x_aload_n hE d_M_play_85 0 rfl ?_
              refine gf_M_41 hc d_M_play_86 ?_
              refine x_iload_n hE d_M_play_89 2 rfl ?_
              refine x_iald hc rfl rfl (by omega) (by decide) d_M_play_90 hat.2.2.1 ?_
              first | refine xn_if_ne hE d_M_play_91 (fun z3 => ?_) (fun z3 => ?_) | refine x_if_ne hE d_M_play_91 (fun z3 => ?_) (fun z3 => ?_)
              · exact no (by omega)
              · skip
                refine x_aload_n hE d_M_play_94 0 rfl ?_
                refine gf_M_86 hc d_M_play_95 ?_
                refine x_iload_n hE d_M_play_98 2 rfl ?_
                refine x_iald hc rfl rfl (by omega) (by decide) d_M_play_99 (hlo u (by omega)) ?_
                first | refine xn_if_ne hE d_M_play_100 (fun z4 => ?_) (fun z4 => ?_) | refine x_if_ne hE d_M_play_100 (fun z4 => ?_) (fun z4 => ?_)
                · exact no (by omega)
                · skip
                  refine x_aload_n hE d_M_play_103 0 rfl ?_
                  refine gf_M_35 hc d_M_play_104 ?_
                  refine x_iload_n hE d_M_play_107 2 rfl ?_
                  refine x_dup2 hE d_M_play_108 rfl rfl ?_
                  refine x_iald hc rfl rfl (by omega) (by decide) d_M_play_109 hat.1 ?_
                  refine x_iconst (nI 1) hE d_M_play_110 (by decide) ?_
                  first | refine xn_iadd hE d_M_play_111 ?_ | refine x_iadd hE d_M_play_111 ?_
                  refine x_iast hc rfl rfl (by omega) (by decide) d_M_play_112 ?_
                  refine next _ ?_ (xm_one.up (by decide) (by decide) (by decide))
                  rw [etick]
                  unfold am_rest
                  rw [if_pos ⟨z1, z3, z4, z2⟩]
                  obtain ⟨h1, h2, h3, h4, h5, h6, h7, h8⟩ := hat
                  refine ⟨?_, fun _ => ?_, ?_, ?_, ?_, ?_, h7, fun i hi => ?_⟩
                  all_goals simp (disch := omega) only [xk_up_s, xk_up_o]
                  · rfl
                  · exact h2 z1
                  · exact h3
                  · exact h4
                  · exact h5
                  · exact h6
                  · exact h8 i hi
  have loop : ∀ (m u : Nat) (τ : xk_St), u + m = n → xm_pl n (am_moves W n (am_obey L (nI t) P cnt) u) τ → xm_fr σ τ → xk_X K (xk_vw (xm G)) τ 7 [(0, .ref (xk_wA (xm G) 0)), (1, .int (nI t)), (2, .int (nI u))] [] := by
    intro m
    induction m with
    | zero =>
      intro u τ hu hpl2 hf
      refine x_iload_n hE d_M_play_7 2 rfl ?_
      refine x_aload_n hE d_M_play_8 0 rfl ?_
      refine gf_M_89 hc d_M_play_9 hpl2.1 ?_
      first | refine xn_icmp_ge hE d_M_play_12 (fun h => ?_) (fun h => ?_) | refine x_icmp_ge hE d_M_play_12 (fun h => ?_) (fun h => ?_)
      · skip
        have e0 : u = n := by omega
        subst e0
        have hok2 := am_okP_moves (W := W) hokO u (Nat.le_refl _)
        refine x_aload_n hE d_M_play_44 0 rfl ?_
        refine ca_M_142 hc d_M_play_45 (k_M_fight hn hpl2 hok2) (fun τ hq => ?_)
        obtain ⟨b1, b2, b3⟩ := hq
        refine x_iconst (nI 0) hE d_M_play_48 (by decide) ?_
        refine x_istore_n [(2, _), (0, _), (1, _)] hE d_M_play_49 rfl (by decide) rfl ?_
        refine x_lv [1, 2, 0] (lv' := [(0, _), (1, _), (2, _)]) rfl ?_
        by_cases h4 : t % 4 = 3
        · refine rest u 0 _ (by omega) h4 ?_ b2 (hf.tr b3)
          simp only [Nat.not_lt_zero, if_false]
          exact b1
        · have b4 : xm_pl u (am_tick W u cnt L t P) _ := b1.cong (fun v hv => by
            unfold am_tick am_calm
            rw [if_neg (fun q => h4 q.2)])
          refine x_iload_n hE d_M_play_50 2 rfl ?_
          refine x_aload_n hE d_M_play_51 0 rfl ?_
          refine gf_M_89 hc d_M_play_52 b1.1 ?_
          first | refine xn_icmp_ge hE d_M_play_55 (fun h5 => ?_) (fun h5 => ?_) | refine x_icmp_ge hE d_M_play_55 (fun h5 => ?_) (fun h5 => ?_)
          · exact fin _ _ b4 (hf.tr b3)
          · skip
            refine x_iload_n hE d_M_play_58 1 rfl ?_
            refine x_iconst (nI 4) hE d_M_play_59 (by decide) ?_
            first | refine xn_irem hE d_M_play_60 ?_ | refine x_irem hE d_M_play_60 (by decide) ?_
            refine x_iconst (nI 3) hE d_M_play_61 (by decide) ?_
            first | refine xn_icmp_ne hE d_M_play_62 (fun h6 => ?_) (fun h6 => ?_) | refine x_icmp_ne hE d_M_play_62 (fun h6 => ?_) (fun h6 => ?_)
            · exact fin _ _ b4 (hf.tr b3)
            · exact absurd h6 h4
      · exact absurd h (by omega)
    | succ m ih =>
      intro u τ hu hpl2 hf
      have hok2 := am_okP_moves (W := W) hokO u (by omega)
      have hat := hpl2.2 u (by omega)
      have ho := (hok2 u (by omega)).2.2.1
      have hb := (hok2 u (by omega)).1
      have next : ∀ (τ2 : xk_St), xm_pl n (am_moves W n (am_obey L (nI t) P cnt) (u + 1)) τ2 → xm_fr σ τ2 → xk_X K (xk_vw (xm G)) τ2 38 [(0, .ref (xk_wA (xm G) 0)), (1, .int (nI t)), (2, .int (nI u))] [] := by
        intro τ2 g1 g2
        refine x_iinc 2 (nI (_ + 1)) [(2, _), (0, _), (1, _)] hE d_M_play_38 rfl (nI_inc _) (by decide) rfl ?_
        refine x_goto hE d_M_play_41 ?_
        refine x_lv [1, 2, 0] (lv' := [(0, _), (1, _), (2, _)]) rfl ?_
        exact ih (u + 1) τ2 (by omega) g1 g2
      refine x_iload_n hE d_M_play_7 2 rfl ?_
      refine x_aload_n hE d_M_play_8 0 rfl ?_
      refine gf_M_89 hc d_M_play_9 hpl2.1 ?_
      first | refine xn_icmp_ge hE d_M_play_12 (fun h => ?_) (fun h => ?_) | refine x_icmp_ge hE d_M_play_12 (fun h => ?_) (fun h => ?_)
      · exact absurd h (by omega)
      · skip
        refine x_aload_n hE d_M_play_15 0 rfl ?_
        refine gf_M_35 hc d_M_play_16 ?_
        refine x_iload_n hE d_M_play_19 2 rfl ?_
        refine x_iald hc rfl rfl (by omega) (by decide) d_M_play_20 hat.1 ?_
        first | refine xn_if_le hE d_M_play_21 (fun hz => ?_) (fun hz => ?_) | refine x_if_le hE d_M_play_21 (fun hz => ?_) (fun hz => ?_)
        · refine next τ ?_ hf
          simp only [am_moves]
          rw [if_pos ((hok2 u (by omega)).2.2.2.2.2.2.2.2 hz).1]
          exact hpl2
        · skip
          refine x_aload_n hE d_M_play_24 0 rfl ?_
          refine gf_M_41 hc d_M_play_25 ?_
          refine x_iload_n hE d_M_play_28 2 rfl ?_
          refine x_iald hc rfl rfl (by omega) (by decide) d_M_play_29 hat.2.2.1 ?_
          first | refine xn_if_eq hE d_M_play_30 (fun h2 => ?_) (fun h2 => ?_) | refine x_if_eq hE d_M_play_30 (fun h2 => ?_) (fun h2 => ?_)
          · refine next τ ?_ hf
            simp only [am_moves]
            rw [if_pos h2]
            exact hpl2
          · skip
            refine x_aload_n hE d_M_play_33 0 rfl ?_
            refine x_iload_n hE d_M_play_34 2 rfl ?_
            refine ca_M_139 hc d_M_play_35 (k_M_move hn (show u < n by omega) hpl2 hok2 (hW.mv (hf.2 1 (by omega))) h2) (fun τ hq => ?_)
            obtain ⟨f1, f2⟩ := hq
            refine next _ ?_ (hf.tr f2.fr)
            simp only [am_moves]
            rw [if_neg h2]
            exact hpl2.set f1 f2
  exact loop n 0 _ (by omega) o1 o2
end XM4
end
section
/-! THE REFERENCE: its calls -/
def xm_R (S : am_S) (σ : xk_St) : Prop := xm_W (aW S) σ ∧ σ.1 0 4 = (if aBg S = true then nI 1 else nI 0) ∧ σ.1 0 5 = nI (aPl S) ∧ (∀ i, i < aPl S → σ.1 4 i = aNm S i) ∧ xm_L (aCn S) (aL S) σ ∧ xm_pl (aN S) (aP S) σ ∧ (∀ u, u < aN S → σ.1 2 u = nI (aSd S u) ∧ σ.1 3 u = nI (aSt S u)) ∧ (aBg S = false → ∀ u, aN S ≤ u → u < 8 → σ.1 11 u = nI 0 ∧ σ.1 12 u = nI 0 ∧ σ.1 13 u = nI 0 ∧ σ.1 15 u = nI 0)
section XM5
variable {G : xk_D} {σ : xk_St} {S : am_S}
theorem k_M_entries (hR : xm_R S σ) : xk_M (xm G) 0 y_M_entries [.ref (xk_wA (xm G) 0)] σ (xk_pi (fun r τ => r = nI (aCn S) ∧ xm_R S τ)) := by
  refine xk_enter (by decide) (Nat.le_of_ble_eq_true rfl) (fun K hE hc => ?_)
  show xk_X K _ _ 0 [(0, _)] []
  refine x_aload_n hE d_M_entries_0 0 rfl ?_
  refine gf_M_110 hc d_M_entries_1 hR.2.2.2.2.1.1 ?_
  exact x_iret hc d_M_entries_4 (⟨rfl, hR⟩)
theorem k_M_number (hR : xm_R S σ) (hS : am_okS S) {t : Int32} : xk_M (xm G) 0 y_M_number [.ref (xk_wA (xm G) 0), .int t] σ (xk_pi (fun r τ => r = am_number S t ∧ xm_R S τ)) := by
  have h200 := hS.2.2.1
  refine xk_enter (by decide) (Nat.le_of_ble_eq_true rfl) (fun K hE hc => ?_)
  show xk_X K _ _ 0 [(0, _), (1, _)] []
  refine x_iload_n hE d_M_number_0 1 rfl ?_
  refine x_if_lt hE d_M_number_1 (fun h1 => ?_) (fun h1 => ?_)
  · skip
    refine x_iconst (nI 0) hE d_M_number_21 (by decide) ?_
    exact x_iret hc d_M_number_22 (⟨by unfold am_number; rw [if_neg (fun q => q.1 h1)], hR⟩)
  · skip
    refine x_iload_n hE d_M_number_4 1 rfl ?_
    refine x_aload_n hE d_M_number_5 0 rfl ?_
    refine gf_M_107 hc d_M_number_6 hR.2.2.1 ?_
    refine x_icmp_ge hE d_M_number_9 (fun h2 => ?_) (fun h2 => ?_)
    · skip
      refine x_iconst (nI 0) hE d_M_number_21 (by decide) ?_
      exact x_iret hc d_M_number_22 (⟨by unfold am_number; rw [if_neg (fun q => q.2 h2)], hR⟩)
    · skip
      have ht : am_has (aPl S) t := ⟨h1, h2⟩
      obtain ⟨j, hj, rfl⟩ := am_has_of (by omega) ht
      refine x_aload_n hE d_M_number_12 0 rfl ?_
      refine gf_M_20 hc d_M_number_13 ?_
      refine x_iload_n hE d_M_number_16 1 rfl ?_
      refine x_iald hc rfl rfl (by omega) (by decide) d_M_number_17 (hR.2.2.2.1 j hj) ?_
      refine x_goto hE d_M_number_18 ?_
      exact x_iret hc d_M_number_22 (⟨by unfold am_number; rw [if_pos ht, nI_clamp (by omega)], hR⟩)
theorem k_M_points (hR : xm_R S σ) (hS : am_okS S) {u : Int32} : xk_M (xm G) 1 y_M_points [.ref (xk_wA (xm G) 0), .int u] σ (xk_pi (fun r τ => r = am_points S u ∧ xm_R S τ)) := by
  have hn8 := hS.1
  have r6 := hR.2.2.2.2.2.1
  refine xk_enter (by decide) (Nat.le_of_ble_eq_true rfl) (fun K hE hc => ?_)
  show xk_X K _ _ 0 [(0, _), (1, _)] []
  refine x_aload_n hE d_M_points_0 0 rfl ?_
  refine x_iload_n hE d_M_points_1 1 rfl ?_
  refine ca_M_104 hc d_M_points_2 (k_M_isUnit r6.1) (fun r τ hq => ?_)
  obtain ⟨ht, rfl⟩ := hq
  rcases ht with ⟨rfl, ht⟩ | ⟨rfl, ht⟩
  · skip
    first | refine xn_if_eq hE d_M_points_5 (fun z => ?_) (fun z => ?_) | refine x_if_eq hE d_M_points_5 (fun z => ?_) (fun z => ?_)
    · exact absurd z (by decide)
    · skip
      obtain ⟨j, hj, rfl⟩ := am_has_of (by omega) ht
      refine x_aload_n hE d_M_points_8 0 rfl ?_
      refine gf_M_35 hc d_M_points_9 ?_
      refine x_iload_n hE d_M_points_12 1 rfl ?_
      refine x_iald hc rfl rfl (by omega) (by decide) d_M_points_13 (r6.2 j hj).1 ?_
      refine x_goto hE d_M_points_14 ?_
      exact x_iret hc d_M_points_18 (⟨by unfold am_points; rw [if_pos ht, nI_clamp (by omega)], hR⟩)
  · skip
    first | refine xn_if_eq hE d_M_points_5 (fun z => ?_) (fun z => ?_) | refine x_if_eq hE d_M_points_5 (fun z => ?_) (fun z => ?_)
    · skip
      refine x_iconst (-1) hE d_M_points_17 (by decide) ?_
      exact x_iret hc d_M_points_18 (⟨by unfold am_points; rw [if_neg ht], hR⟩)
    · exact absurd rfl z
theorem k_M_tile (hR : xm_R S σ) (hS : am_okS S) {u : Int32} : xk_M (xm G) 1 y_M_tile [.ref (xk_wA (xm G) 0), .int u] σ (xk_pi (fun r τ => r = am_tile S u ∧ xm_R S τ)) := by
  have hn8 := hS.1
  have r6 := hR.2.2.2.2.2.1
  refine xk_enter (by decide) (Nat.le_of_ble_eq_true rfl) (fun K hE hc => ?_)
  show xk_X K _ _ 0 [(0, _), (1, _)] []
  refine x_aload_n hE d_M_tile_0 0 rfl ?_
  refine x_iload_n hE d_M_tile_1 1 rfl ?_
  refine ca_M_104 hc d_M_tile_2 (k_M_isUnit r6.1) (fun r τ hq => ?_)
  obtain ⟨ht, rfl⟩ := hq
  rcases ht with ⟨rfl, ht⟩ | ⟨rfl, ht⟩
  · skip
    first | refine xn_if_eq hE d_M_tile_5 (fun z => ?_) (fun z => ?_) | refine x_if_eq hE d_M_tile_5 (fun z => ?_) (fun z => ?_)
    · exact absurd z (by decide)
    · skip
      obtain ⟨j, hj, rfl⟩ := am_has_of (by omega) ht
      have hb := (hS.2.2.2.2 j hj).1
      refine x_aload_n hE d_M_tile_8 0 rfl ?_
      refine gf_M_35 hc d_M_tile_9 ?_
      refine x_iload_n hE d_M_tile_12 1 rfl ?_
      refine x_iald hc rfl rfl (by omega) (by decide) d_M_tile_13 (r6.2 j hj).1 ?_
      first | refine xn_if_le hE d_M_tile_14 (fun y => ?_) (fun y => ?_) | refine x_if_le hE d_M_tile_14 (fun y => ?_) (fun y => ?_)
      · skip
        refine x_iconst (-1) hE d_M_tile_26 (by decide) ?_
        exact x_iret hc d_M_tile_27 (⟨by unfold am_tile; rw [if_neg (by rw [nI_clamp (by omega)]; omega)], hR⟩)
      · skip
        refine x_aload_n hE d_M_tile_17 0 rfl ?_
        refine gf_M_38 hc d_M_tile_18 ?_
        refine x_iload_n hE d_M_tile_21 1 rfl ?_
        refine x_iald hc rfl rfl (by omega) (by decide) d_M_tile_22 ((r6.2 j hj).2.1 y) ?_
        refine x_goto hE d_M_tile_23 ?_
        exact x_iret hc d_M_tile_27 (⟨by unfold am_tile; rw [nI_clamp (by omega), if_pos ⟨ht, y⟩], hR⟩)
  · skip
    first | refine xn_if_eq hE d_M_tile_5 (fun z => ?_) (fun z => ?_) | refine x_if_eq hE d_M_tile_5 (fun z => ?_) (fun z => ?_)
    · skip
      refine x_iconst (-1) hE d_M_tile_26 (by decide) ?_
      exact x_iret hc d_M_tile_27 (⟨by unfold am_tile; rw [if_neg (fun q => ht q.1)], hR⟩)
    · exact absurd rfl z
theorem k_M_order (hR : xm_R S σ) (hS : am_okS S) {u : Int32} : xk_M (xm G) 1 y_M_order [.ref (xk_wA (xm G) 0), .int u] σ (xk_pi (fun r τ => r = am_order S u ∧ xm_R S τ)) := by
  have hn8 := hS.1
  have r6 := hR.2.2.2.2.2.1
  refine xk_enter (by decide) (Nat.le_of_ble_eq_true rfl) (fun K hE hc => ?_)
  show xk_X K _ _ 0 [(0, _), (1, _)] []
  refine x_aload_n hE d_M_order_0 0 rfl ?_
  refine x_iload_n hE d_M_order_1 1 rfl ?_
  refine ca_M_104 hc d_M_order_2 (k_M_isUnit r6.1) (fun r τ hq => ?_)
  obtain ⟨ht, rfl⟩ := hq
  rcases ht with ⟨rfl, ht⟩ | ⟨rfl, ht⟩
  · skip
    first | refine xn_if_eq hE d_M_order_5 (fun z => ?_) (fun z => ?_) | refine x_if_eq hE d_M_order_5 (fun z => ?_) (fun z => ?_)
    · exact absurd z (by decide)
    · skip
      obtain ⟨j, hj, rfl⟩ := am_has_of (by omega) ht
      refine x_aload_n hE d_M_order_8 0 rfl ?_
      refine gf_M_41 hc d_M_order_9 ?_
      refine x_iload_n hE d_M_order_12 1 rfl ?_
      refine x_iald hc rfl rfl (by omega) (by decide) d_M_order_13 (r6.2 j hj).2.2.1 ?_
      refine x_iconst (nI 4) hE d_M_order_14 (by decide) ?_
      refine x_aload_n hE d_M_order_15 0 rfl ?_
      refine gf_M_44 hc d_M_order_16 ?_
      refine x_iload_n hE d_M_order_19 1 rfl ?_
      refine x_iald hc rfl rfl (by omega) (by decide) d_M_order_20 (r6.2 j hj).2.2.2.1 ?_
      first | refine xn_imul hE d_M_order_21 ?_ | refine x_imul hE d_M_order_21 ?_
      first | refine xn_iadd hE d_M_order_22 ?_ | refine x_iadd hE d_M_order_22 ?_
      refine x_goto hE d_M_order_23 ?_
      exact x_iret hc d_M_order_27 (⟨by unfold am_order; rw [if_pos ht, nI_clamp (by omega)], hR⟩)
  · skip
    first | refine xn_if_eq hE d_M_order_5 (fun z => ?_) (fun z => ?_) | refine x_if_eq hE d_M_order_5 (fun z => ?_) (fun z => ?_)
    · skip
      refine x_iconst (-1) hE d_M_order_26 (by decide) ?_
      exact x_iret hc d_M_order_27 (⟨by unfold am_order; rw [if_neg ht], hR⟩)
    · exact absurd rfl z
theorem k_M_path (hR : xm_R S σ) (hS : am_okS S) {u i : Int32} : xk_M (xm G) 1 y_M_path [.ref (xk_wA (xm G) 0), .int u, .int i] σ (xk_pi (fun r τ => r = am_path S u i ∧ xm_R S τ)) := by
  have hn8 := hS.1
  have r6 := hR.2.2.2.2.2.1
  have no : ∀ K : xk_K, xk_E K c_M_path 3 → xk_H K (xm G) c_M_path 3 RM 1 (some .int) (xk_pi (fun r τ => r = am_path S u i ∧ xm_R S τ)) → ¬ (am_has (aN S) u ∧ am_has (am_pth (aP S u.toNatClampNeg)).length i) → xk_X K (xk_vw (xm G)) σ 36 [(0, .ref (xk_wA (xm G) 0)), (1, .int u), (2, .int i)] [] := by
    intro K hE hc h
    refine x_iconst (-1) hE d_M_path_36 (by decide) ?_
    exact x_iret hc d_M_path_37 (⟨by unfold am_path; rw [if_neg h], hR⟩)
  refine xk_enter (by decide) (Nat.le_of_ble_eq_true rfl) (fun K hE hc => ?_)
  show xk_X K _ _ 0 [(0, _), (1, _), (2, _)] []
  refine x_aload_n hE d_M_path_0 0 rfl ?_
  refine x_iload_n hE d_M_path_1 1 rfl ?_
  refine ca_M_104 hc d_M_path_2 (k_M_isUnit r6.1) (fun r τ hq => ?_)
  obtain ⟨ht, rfl⟩ := hq
  rcases ht with ⟨rfl, ht⟩ | ⟨rfl, ht⟩
  · skip
    first | refine xn_if_eq hE d_M_path_5 (fun z => ?_) (fun z => ?_) | refine x_if_eq hE d_M_path_5 (fun z => ?_) (fun z => ?_)
    · exact absurd z (by decide)
    · skip
      refine x_iload_n hE d_M_path_8 2 rfl ?_
      refine x_if_lt hE d_M_path_9 (fun h1 => ?_) (fun h1 => ?_)
      · exact no K hE hc (fun q => q.2.1 h1)
      · skip
        obtain ⟨j, hj, rfl⟩ := am_has_of (by omega) ht
        have hlen := (hS.2.2.2.2 j hj).2.2.2.2.2.2.1
        have ej : (nI j).toNatClampNeg = j := nI_clamp (by omega)
        have hat := r6.2 j hj
        refine x_iload_n hE d_M_path_12 2 rfl ?_
        refine x_aload_n hE d_M_path_13 0 rfl ?_
        refine gf_M_53 hc d_M_path_14 ?_
        refine x_iload_n hE d_M_path_17 1 rfl ?_
        refine x_iald hc rfl rfl (by omega) (by decide) d_M_path_18 hat.2.2.2.2.2.1 ?_
        refine x_icmp_ge hE d_M_path_19 (fun h2 => ?_) (fun h2 => ?_)
        · exact no K hE hc (fun q => by rw [ej] at q; exact q.2.2 h2)
        · skip
          have hi : am_has (am_pth (aP S j)).length i := ⟨h1, h2⟩
          obtain ⟨ii, hii, rfl⟩ := am_has_of (by omega) hi
          refine x_aload_n hE d_M_path_22 0 rfl ?_
          refine gf_M_50 hc d_M_path_23 ?_
          refine x_bipush (nI 64) hE d_M_path_26 (by decide) ?_
          refine x_iload_n hE d_M_path_28 1 rfl ?_
          first | refine xn_imul hE d_M_path_29 ?_ | refine x_imul hE d_M_path_29 ?_
          refine x_iload_n hE d_M_path_30 2 rfl ?_
          first | refine xn_iadd hE d_M_path_31 ?_ | refine x_iadd hE d_M_path_31 ?_
          refine x_iald hc rfl rfl (by omega) (by decide) d_M_path_32 (hat.2.2.2.2.2.2.2 ii hii) ?_
          refine x_goto hE d_M_path_33 ?_
          refine x_iret hc d_M_path_37 ⟨?_, hR⟩
          unfold am_path
          rw [ej, if_pos ⟨ht, hi⟩, nI_clamp (by omega)]
          congr 1
          simp [hii]
  · skip
    first | refine xn_if_eq hE d_M_path_5 (fun z => ?_) (fun z => ?_) | refine x_if_eq hE d_M_path_5 (fun z => ?_) (fun z => ?_)
    · exact no K hE hc (fun q => ht q.1)
    · exact absurd rfl z
theorem k_M_begin (hR : xm_R S σ) : xk_M (xm G) 0 y_M_begin [.ref (xk_wA (xm G) 0)] σ (xk_pi (fun r τ => r = (am_begin S).1 ∧ xm_R (am_begin S).2 τ)) := by
  have hR0 := hR
  obtain ⟨r1, r2, r3, r4, r5, r6, r7, r8⟩ := hR
  refine xk_enter (by decide) (Nat.le_of_ble_eq_true rfl) (fun K hE hc => ?_)
  show xk_X K _ _ 0 [(0, _)] []
  refine x_aload_n hE d_M_begin_0 0 rfl ?_
  refine gf_M_93 hc d_M_begin_1 r2 ?_
  cases hbg : aBg S with
  | true =>
    first | refine xn_if_eq hE d_M_begin_4 (fun z => ?_) (fun z => ?_) | refine x_if_eq hE d_M_begin_4 (fun z => ?_) (fun z => ?_)
    · exact absurd z (by decide)
    · skip
      refine x_bipush (-3) hE d_M_begin_7 (by decide) ?_
      have e : am_begin S = (-3, S) := by unfold am_begin; rw [if_pos hbg]
      exact x_iret hc d_M_begin_9 (by rw [e]; exact ⟨rfl, hR0⟩)
  | false =>
    first | refine xn_if_eq hE d_M_begin_4 (fun z => ?_) (fun z => ?_) | refine x_if_eq hE d_M_begin_4 (fun z => ?_) (fun z => ?_)
    · skip
      refine x_aload_n hE d_M_begin_10 0 rfl ?_
      refine x_iconst (nI 1) hE d_M_begin_11 (by decide) ?_
      refine pf_M_93 hc d_M_begin_12 (by first | exact Or.inl rfl | exact Or.inr rfl | assumption) ?_
      refine x_aload_n hE d_M_begin_15 0 rfl ?_
      refine gf_M_89 hc d_M_begin_16 (show _ = nI (aN S) by rw [xk_up_s, if_neg (by decide)]; exact r6.1) ?_
      have e : am_begin S = (nI (aN S), (aW S, aN S, aSd S, aSt S, true, S.2.2.2.2.2)) := by unfold am_begin; rw [if_neg (by rw [hbg]; simp)]
      refine x_iret hc d_M_begin_19 ?_
      rw [e]
      refine ⟨rfl, r1.mv (xk_up_o (by decide)), ?_, ?_, fun i hi => ?_, ⟨?_, fun e he => ?_⟩, ⟨?_, fun u hu => ?_⟩, fun u hu => ?_, fun q => by cases q⟩
      · rw [xk_up_s, if_pos rfl]; rfl
      · rw [xk_up_s, if_neg (by decide)]; exact r3
      · rw [xk_up_o (by decide)]; exact r4 i hi
      · rw [xk_up_s, if_neg (by decide)]; exact r5.1
      · rw [xk_up_o (by decide), xk_up_o (by decide), xk_up_o (by decide), xk_up_o (by decide)]; exact r5.2 e he
      · rw [xk_up_s, if_neg (by decide)]; exact r6.1
      · have h := r6.2 u hu
        unfold xm_at at h ⊢
        rw [xk_up_o (by decide), xk_up_o (by decide), xk_up_o (by decide), xk_up_o (by decide), xk_up_o (by decide), xk_up_o (by decide), xk_up_o (by decide)]
        exact h
      · rw [xk_up_o (by decide), xk_up_o (by decide)]; exact r7 u hu
    · exact absurd rfl z
theorem k_M_wall (hR : xm_R S σ) (hS : am_okS S) {t b : Int32} (hb : b = nI 0 ∨ b = nI 1) : xk_M (xm G) 1 y_M_wall [.ref (xk_wA (xm G) 0), .int t, .int b] σ (xk_pi (fun r τ => r = (am_wall S t b).1 ∧ xm_R (am_wall S t b).2 τ)) := by
  have hR0 := hR
  obtain ⟨r1, r2, r3, r4, r5, r6, r7, r8⟩ := hR
  have no : ∀ K : xk_K, xk_E K c_M_wall 3 → xk_H K (xm G) c_M_wall 3 RM 1 (some .boolean) (xk_pi (fun r τ => r = (am_wall S t b).1 ∧ xm_R (am_wall S t b).2 τ)) → (aBg S = true ∨ ¬ am_has 64 t ∨ am_taken (aP S) t.toNatClampNeg (aN S) = true) → xk_X K (xk_vw (xm G)) σ 22 [(0, .ref (xk_wA (xm G) 0)), (1, .int t), (2, .int b)] [] := by
    intro K hE hc h
    refine x_iconst (nI 0) hE d_M_wall_22 (by decide) ?_
    have e : am_wall S t b = (nI 0, S) := by unfold am_wall; rw [if_pos h]
    exact x_zret hc d_M_wall_23 (by first | exact Or.inl rfl | exact Or.inr rfl | assumption | omega) (by rw [e]; exact ⟨rfl, hR0⟩)
  refine xk_enter (by decide) (Nat.le_of_ble_eq_true rfl) (fun K hE hc => ?_)
  show xk_X K _ _ 0 [(0, _), (1, _), (2, _)] []
  refine x_aload_n hE d_M_wall_0 0 rfl ?_
  refine gf_M_93 hc d_M_wall_1 r2 ?_
  cases hbg : aBg S with
  | true =>
    first | refine xn_if_ne hE d_M_wall_4 (fun z => ?_) (fun z => ?_) | refine x_if_ne hE d_M_wall_4 (fun z => ?_) (fun z => ?_)
    · exact no K hE hc (Or.inl hbg)
    · exact absurd z (by decide)
  | false =>
    first | refine xn_if_ne hE d_M_wall_4 (fun z => ?_) (fun z => ?_) | refine x_if_ne hE d_M_wall_4 (fun z => ?_) (fun z => ?_)
    · exact absurd rfl z
    · skip
      refine x_iload_n hE d_M_wall_7 1 rfl ?_
      refine ca_M_97 hc d_M_wall_8 (k_M_isTile) (fun r τ hq => ?_)
      obtain ⟨ht, rfl⟩ := hq
      rcases ht with ⟨rfl, ht⟩ | ⟨rfl, ht⟩
      · skip
        first | refine xn_if_eq hE d_M_wall_11 (fun z => ?_) (fun z => ?_) | refine x_if_eq hE d_M_wall_11 (fun z => ?_) (fun z => ?_)
        · exact absurd z (by decide)
        · skip
          obtain ⟨j, hj, rfl⟩ := am_has_of (by decide) ht
          have ej : (nI j).toNatClampNeg = j := nI_clamp (by omega)
          refine x_aload_n hE d_M_wall_14 0 rfl ?_
          refine x_iload_n hE d_M_wall_15 1 rfl ?_
          refine ca_M_101 hc d_M_wall_16 (k_M_isTaken hS.1 r6 hS.2.2.2.2 hj) (fun r τ hq => ?_)
          obtain ⟨rfl, rfl⟩ := hq
          cases hta : am_taken (aP S) j (aN S) with
          | true =>
            first | refine xn_if_eq hE d_M_wall_19 (fun z => ?_) (fun z => ?_) | refine x_if_eq hE d_M_wall_19 (fun z => ?_) (fun z => ?_)
            · exact absurd z (by decide)
            · exact no K hE hc (Or.inr (Or.inr (by rw [ej]; exact hta)))
          | false =>
            first | refine xn_if_eq hE d_M_wall_19 (fun z => ?_) (fun z => ?_) | refine x_if_eq hE d_M_wall_19 (fun z => ?_) (fun z => ?_)
            · skip
              refine x_aload_n hE d_M_wall_24 0 rfl ?_
              refine gf_M_7 hc d_M_wall_25 ?_
              refine x_iload_n hE d_M_wall_28 1 rfl ?_
              refine x_iload_n hE d_M_wall_29 2 rfl ?_
              refine x_zast hc rfl rfl (by omega) (by decide) (by rcases hb with rfl | rfl <;> decide +kernel) d_M_wall_30 ?_
              refine x_iconst (nI 1) hE d_M_wall_31 (by decide) ?_
              have e : am_wall S (nI j) b = (nI 1, (am_set (aW S) j (decide (b ≠ 0)), S.2)) := by
                unfold am_wall
                rw [if_neg (by rw [ej, hta, hbg]; simp [ht]), ej]
              refine x_zret hc d_M_wall_32 (Or.inr rfl) ?_
              rw [e]
              refine ⟨rfl, fun i hi => ?_, ?_, ?_, fun i hi => ?_, ⟨?_, fun e he => ?_⟩, ⟨?_, fun u hu => ?_⟩, fun u hu => ?_, fun q u h1 h2 => ?_⟩
              · rw [xk_up_s]
                show _ = if am_set (aW S) j (decide (b ≠ 0)) i = true then nI 1 else nI 0
                by_cases e1 : i = j
                · subst e1
                  rw [if_pos rfl, am_set_s]
                  rcases hb with rfl | rfl
                  · rfl
                  · rfl
                · rw [if_neg e1, am_set_n e1]; exact r1 i hi
              · rw [xk_up_o (by decide)]; exact r2
              · rw [xk_up_o (by decide)]; exact r3
              · rw [xk_up_o (by decide)]; exact r4 i hi
              · rw [xk_up_o (by decide)]; exact r5.1
              · rw [xk_up_o (by decide), xk_up_o (by decide), xk_up_o (by decide), xk_up_o (by decide)]; exact r5.2 e he
              · rw [xk_up_o (by decide)]; exact r6.1
              · have h := r6.2 u hu
                unfold xm_at at h ⊢
                rw [xk_up_o (by decide), xk_up_o (by decide), xk_up_o (by decide), xk_up_o (by decide), xk_up_o (by decide), xk_up_o (by decide), xk_up_o (by decide)]
                exact h
              · rw [xk_up_o (by decide), xk_up_o (by decide)]; exact r7 u hu
              · rw [xk_up_o (by decide), xk_up_o (by decide), xk_up_o (by decide), xk_up_o (by decide)]; exact r8 q u h1 h2
            · exact absurd rfl z
      · skip
        first | refine xn_if_eq hE d_M_wall_11 (fun z => ?_) (fun z => ?_) | refine x_if_eq hE d_M_wall_11 (fun z => ?_) (fun z => ?_)
        · exact no K hE hc (Or.inr (Or.inl ht))
        · exact absurd rfl z
theorem am_two {s : Int32} : nI 1 < s ↔ nI 2 ≤ s := by
  rw [Int32.lt_iff_toInt_lt, Int32.le_iff_toInt_le, nI_toInt (by decide), nI_toInt (by decide)]
  omega
theorem k_M_unit (hR : xm_R S σ) (hS : am_okS S) {s t : Int32} : xk_M (xm G) 1 y_M_unit [.ref (xk_wA (xm G) 0), .int s, .int t] σ (xk_pi (fun r τ => r = (am_unit S s t).1 ∧ xm_R (am_unit S s t).2 τ)) := by
  have hR0 := hR
  have hn8 := hS.1
  obtain ⟨r1, r2, r3, r4, r5, r6, r7, r8⟩ := hR
  have no : ∀ K : xk_K, xk_E K c_M_unit 3 → xk_H K (xm G) c_M_unit 3 RM 1 (some .int) (xk_pi (fun r τ => r = (am_unit S s t).1 ∧ xm_R (am_unit S s t).2 τ)) → aBg S = false → (¬ am_has 2 s ∨ ¬ am_has 64 t ∨ aW S t.toNatClampNeg = true ∨ am_taken (aP S) t.toNatClampNeg (aN S) = true) → xk_X K (xk_vw (xm G)) σ 43 [(0, .ref (xk_wA (xm G) 0)), (1, .int s), (2, .int t)] [] := by
    intro K hE hc hbg h
    refine x_iconst (-1) hE d_M_unit_43 (by decide) ?_
    have e : am_unit S s t = (-1, S) := by unfold am_unit; rw [if_neg (by rw [hbg]; simp), if_pos h]
    exact x_iret hc d_M_unit_44 (by rw [e]; exact ⟨rfl, hR0⟩)
  refine xk_enter (by decide) (Nat.le_of_ble_eq_true rfl) (fun K hE hc => ?_)
  show xk_X K _ _ 0 [(0, _), (1, _), (2, _)] []
  refine x_aload_n hE d_M_unit_0 0 rfl ?_
  refine gf_M_93 hc d_M_unit_1 r2 ?_
  cases hbg : aBg S with
  | true =>
    first | refine xn_if_eq hE d_M_unit_4 (fun z => ?_) (fun z => ?_) | refine x_if_eq hE d_M_unit_4 (fun z => ?_) (fun z => ?_)
    · exact absurd z (by decide)
    · skip
      refine x_bipush (-3) hE d_M_unit_7 (by decide) ?_
      have e : am_unit S s t = (-3, S) := by unfold am_unit; rw [if_pos hbg]
      exact x_iret hc d_M_unit_9 (by rw [e]; exact ⟨rfl, hR0⟩)
  | false =>
    first | refine xn_if_eq hE d_M_unit_4 (fun z => ?_) (fun z => ?_) | refine x_if_eq hE d_M_unit_4 (fun z => ?_) (fun z => ?_)
    · skip
      refine x_iload_n hE d_M_unit_10 1 rfl ?_
      refine x_if_lt hE d_M_unit_11 (fun h1 => ?_) (fun h1 => ?_)
      · exact no K hE hc hbg (Or.inl (fun q => q.1 h1))
      · skip
        refine x_iload_n hE d_M_unit_14 1 rfl ?_
        refine x_iconst (nI 1) hE d_M_unit_15 (by decide) ?_
        refine x_icmp_gt hE d_M_unit_16 (fun h2 => ?_) (fun h2 => ?_)
        · exact no K hE hc hbg (Or.inl (fun q => q.2 (am_two.mp h2)))
        · skip
          have hs : am_has 2 s := ⟨h1, fun q => h2 (am_two.mpr q)⟩
          refine x_iload_n hE d_M_unit_19 2 rfl ?_
          refine ca_M_97 hc d_M_unit_20 (k_M_isTile) (fun r τ hq => ?_)
          obtain ⟨ht, rfl⟩ := hq
          rcases ht with ⟨rfl, ht⟩ | ⟨rfl, ht⟩
          · skip
            first | refine xn_if_eq hE d_M_unit_23 (fun z => ?_) (fun z => ?_) | refine x_if_eq hE d_M_unit_23 (fun z => ?_) (fun z => ?_)
            · exact absurd z (by decide)
            · skip
              obtain ⟨js, hjs, rfl⟩ := am_has_of (by decide) hs
              obtain ⟨j, hj, rfl⟩ := am_has_of (by decide) ht
              have ej : (nI j).toNatClampNeg = j := nI_clamp (by omega)
              have ejs : (nI js).toNatClampNeg = js := nI_clamp (by omega)
              refine x_aload_n hE d_M_unit_26 0 rfl ?_
              refine gf_M_7 hc d_M_unit_27 ?_
              refine x_iload_n hE d_M_unit_30 2 rfl ?_
              refine x_zald hc rfl rfl (by omega) (by decide) d_M_unit_31 (r1 j hj) ?_
              cases hw : aW S j with
              | true =>
                first | refine xn_if_ne hE d_M_unit_32 (fun z => ?_) (fun z => ?_) | refine x_if_ne hE d_M_unit_32 (fun z => ?_) (fun z => ?_)
                · exact no K hE hc hbg (Or.inr (Or.inr (Or.inl (by rw [ej]; exact hw))))
                · exact absurd z (by decide)
              | false =>
                first | refine xn_if_ne hE d_M_unit_32 (fun z => ?_) (fun z => ?_) | refine x_if_ne hE d_M_unit_32 (fun z => ?_) (fun z => ?_)
                · exact absurd rfl z
                · skip
                  refine x_aload_n hE d_M_unit_35 0 rfl ?_
                  refine x_iload_n hE d_M_unit_36 2 rfl ?_
                  refine ca_M_101 hc d_M_unit_37 (k_M_isTaken hS.1 r6 hS.2.2.2.2 hj) (fun r τ hq => ?_)
                  obtain ⟨rfl, rfl⟩ := hq
                  cases hta : am_taken (aP S) j (aN S) with
                  | true =>
                    first | refine xn_if_eq hE d_M_unit_40 (fun z => ?_) (fun z => ?_) | refine x_if_eq hE d_M_unit_40 (fun z => ?_) (fun z => ?_)
                    · exact absurd z (by decide)
                    · exact no K hE hc hbg (Or.inr (Or.inr (Or.inr (by rw [ej]; exact hta))))
                  | false =>
                    first | refine xn_if_eq hE d_M_unit_40 (fun z => ?_) (fun z => ?_) | refine x_if_eq hE d_M_unit_40 (fun z => ?_) (fun z => ?_)
                    · skip
                      have hneg : ¬ (¬ am_has 2 (nI js) ∨ ¬ am_has 64 (nI j) ∨ aW S (nI j).toNatClampNeg = true ∨ am_taken (aP S) (nI j).toNatClampNeg (aN S) = true) := by
                        rw [ej, hw, hta]
                        intro q
                        rcases q with q | q | q | q
                        · exact q hs
                        · exact q ht
                        · cases q
                        · cases q
                      refine x_aload_n hE d_M_unit_45 0 rfl ?_
                      refine gf_M_89 hc d_M_unit_46 r6.1 ?_
                      refine x_bipush (nI 8) hE d_M_unit_49 (by decide) ?_
                      first | refine xn_icmp_ne hE d_M_unit_51 (fun h8 => ?_) (fun h8 => ?_) | refine x_icmp_ne hE d_M_unit_51 (fun h8 => ?_) (fun h8 => ?_)
                      · skip
                        have hn7 : aN S < 8 := by omega
                        refine x_aload_n hE d_M_unit_57 0 rfl ?_
                        refine gf_M_13 hc d_M_unit_58 ?_
                        refine x_aload_n hE d_M_unit_61 0 rfl ?_
                        refine gf_M_89 hc d_M_unit_62 r6.1 ?_
                        refine x_iload_n hE d_M_unit_65 1 rfl ?_
                        refine x_iast hc rfl rfl (by omega) (by decide) d_M_unit_66 ?_
                        refine x_aload_n hE d_M_unit_67 0 rfl ?_
                        refine gf_M_17 hc d_M_unit_68 ?_
                        refine x_aload_n hE d_M_unit_71 0 rfl ?_
                        refine gf_M_89 hc d_M_unit_72 (show _ = nI (aN S) by rw [xk_up_o (by decide)]; exact r6.1) ?_
                        refine x_iload_n hE d_M_unit_75 2 rfl ?_
                        refine x_iast hc rfl rfl (by omega) (by decide) d_M_unit_76 ?_
                        refine x_aload_n hE d_M_unit_77 0 rfl ?_
                        refine gf_M_38 hc d_M_unit_78 ?_
                        refine x_aload_n hE d_M_unit_81 0 rfl ?_
                        refine gf_M_89 hc d_M_unit_82 (show _ = nI (aN S) by rw [xk_up_o (by decide), xk_up_o (by decide)]; exact r6.1) ?_
                        refine x_iload_n hE d_M_unit_85 2 rfl ?_
                        refine x_iast hc rfl rfl (by omega) (by decide) d_M_unit_86 ?_
                        refine x_aload_n hE d_M_unit_87 0 rfl ?_
                        refine gf_M_35 hc d_M_unit_88 ?_
                        refine x_aload_n hE d_M_unit_91 0 rfl ?_
                        refine gf_M_89 hc d_M_unit_92 (show _ = nI (aN S) by rw [xk_up_o (by decide), xk_up_o (by decide), xk_up_o (by decide)]; exact r6.1) ?_
                        refine x_bipush (nI 20) hE d_M_unit_95 (by decide) ?_
                        refine x_iast hc rfl rfl (by omega) (by decide) d_M_unit_97 ?_
                        refine x_aload_n hE d_M_unit_98 0 rfl ?_
                        refine x_dup hE d_M_unit_99 rfl ?_
                        refine gf_M_89 hc d_M_unit_100 (show _ = nI (aN S) by rw [xk_up_o (by decide), xk_up_o (by decide), xk_up_o (by decide), xk_up_o (by decide)]; exact r6.1) ?_
                        refine x_iconst (nI 1) hE d_M_unit_103 (by decide) ?_
                        first | refine xn_iadd hE d_M_unit_104 ?_ | refine x_iadd hE d_M_unit_104 ?_
                        refine pf_M_89 hc d_M_unit_105 ?_
                        refine x_aload_n hE d_M_unit_108 0 rfl ?_
                        refine gf_M_89 hc d_M_unit_109 (by rw [xk_up_s, if_pos rfl]) ?_
                        refine x_iconst (nI 1) hE d_M_unit_112 (by decide) ?_
                        first | refine xn_isub hE d_M_unit_113 ?_ | refine x_isub hE d_M_unit_113 ?_
                        have e : am_unit S (nI js) (nI j) = (nI (aN S), (aW S, aN S + 1, am_set (aSd S) (aN S) js, am_set (aSt S) (aN S) j, aBg S, aPl S, aNm S, aCn S, aL S, am_set (aP S) (aN S) (20, j, 0, 0, 0, []))) := by
                          unfold am_unit
                          rw [if_neg (by rw [hbg]; simp), if_neg hneg, if_neg h8, ej, ejs]
                        refine x_iret hc d_M_unit_114 ?_
                        rw [e]
                        obtain ⟨z1, z2, z3, z4⟩ := r8 hbg (aN S) (Nat.le_refl _) hn7
                        refine ⟨rfl, r1.mv ?_, ?_, ?_, fun i hi => ?_, ⟨?_, fun e he => ?_⟩, ⟨?_, fun u hu => ?_⟩, fun u hu => ?_, fun q u h1 h2 => ?_⟩
                        · simp (disch := omega) only [xk_up_o]
                        · simp (disch := omega) only [xk_up_s, xk_up_o]; exact r2
                        · simp (disch := omega) only [xk_up_s, xk_up_o]; exact r3
                        · simp (disch := omega) only [xk_up_s, xk_up_o]; exact r4 i hi
                        · simp (disch := omega) only [xk_up_s, xk_up_o]; exact r5.1
                        · simp (disch := omega) only [xk_up_s, xk_up_o]; exact r5.2 e he
                        · rw [xk_up_s, if_pos rfl]
                        · have hu : u < aN S + 1 := hu
                          show xm_at _ u (am_set (aP S) (aN S) (20, j, 0, 0, 0, []) u)
                          by_cases e1 : u = aN S
                          · subst e1
                            rw [am_set_s]
                            refine ⟨?_, fun _ => ?_, ?_, ?_, ?_, ?_, Nat.zero_le _, fun i hi => absurd hi (Nat.not_lt_zero _)⟩
                            all_goals simp (disch := omega) only [xk_up_s, xk_up_o]
                            · rfl
                            · rfl
                            · exact z1
                            · exact z2
                            · exact z3
                            · exact z4
                          · rw [am_set_n e1]
                            obtain ⟨g1, g2, g3, g4, g5, g6, g7, g8⟩ := r6.2 u (by omega)
                            refine ⟨?_, ?_, ?_, ?_, ?_, ?_, g7, fun i hi => ?_⟩
                            all_goals simp (disch := omega) only [xk_up_s, xk_up_o]
                            · rw [if_neg e1]; exact g1
                            · rw [if_neg e1]; exact g2
                            · exact g3
                            · exact g4
                            · exact g5
                            · exact g6
                            · exact g8 i hi
                        · have hu : u < aN S + 1 := hu
                          show _ = nI (am_set (aSd S) (aN S) js u) ∧ _ = nI (am_set (aSt S) (aN S) j u)
                          simp (disch := omega) only [xk_up_s, xk_up_o]
                          by_cases e1 : u = aN S
                          · subst e1
                            rw [am_set_s, am_set_s, if_pos rfl, if_pos rfl]
                            exact ⟨rfl, rfl⟩
                          · rw [am_set_n e1, am_set_n e1, if_neg e1, if_neg e1]
                            exact r7 u (by omega)
                        · have h1 : aN S + 1 ≤ u := h1
                          simp (disch := omega) only [xk_up_s, xk_up_o]
                          exact r8 q u (by omega) h2
                      · skip
                        refine x_bipush (-2) hE d_M_unit_54 (by decide) ?_
                        have e : am_unit S (nI js) (nI j) = (-2, S) := by
                          unfold am_unit
                          rw [if_neg (by rw [hbg]; simp), if_neg hneg, if_pos h8]
                        exact x_iret hc d_M_unit_56 (by rw [e]; exact ⟨rfl, hR0⟩)
                    · exact absurd rfl z
          · skip
            first | refine xn_if_eq hE d_M_unit_23 (fun z => ?_) (fun z => ?_) | refine x_if_eq hE d_M_unit_23 (fun z => ?_) (fun z => ?_)
            · exact no K hE hc hbg (Or.inr (Or.inl ht))
            · exact absurd rfl z
    · exact absurd rfl z
theorem xm_steps {a b : Nat} (ha : a < 64) (free : Nat → Bool) : xc_dp (am_end free a b) b = (if (am_find free a b).length = 0 ∧ a ≠ b then -1 else nI (am_find free a b).length) := by
  have h := am_inv_end (free := free) (b := b) ha
  by_cases hf : (am_end free a b).2.2.1 b = none
  · have e : am_find free a b = [] := by unfold am_find; rw [if_pos hf]
    have hab : a ≠ b := fun q => h.2.1 (Eq.trans (congrArg (am_end free a b).2.2.1 q) hf)
    rw [xc_dp_n hf, e, if_pos ⟨rfl, hab⟩]
  · have e : am_find free a b = am_chain (am_end free a b).2.2.1 ((am_end free a b).2.2.2 b) b := by unfold am_find; rw [if_neg hf]
    obtain ⟨x, hx⟩ := Option.ne_none_iff_exists'.mp hf
    rw [xc_dp_s hf, e, am_chain_len, if_neg]
    intro q
    rcases (h.2.2.2 b x hx).2.2.2.2 with ⟨g1, -⟩ | ⟨-, g1⟩
    · exact q.2 g1.symm
    · omega
theorem xm_R_F {τ : xk_St} (h : xm_R S σ) (hF : xm_F σ τ) : xm_R S τ := by
  obtain ⟨r1, r2, r3, r4, r5, r6, r7, r8⟩ := h
  have e : ∀ k, k ≠ 23 → k ≠ 24 → k ≠ 25 → τ.1 k = σ.1 k := hF.2
  refine ⟨r1.mv (e 1 (by decide) (by decide) (by decide)), ?_, ?_, fun i hi => ?_, r5.mv (fun k hk => e k (by omega) (by omega) (by omega)), r6.mv (fun k hk => e k (by omega) (by omega) (by omega)), fun u hu => ?_, fun q u h1 h2 => ?_⟩
  · rw [e 0 (by decide) (by decide) (by decide)]; exact r2
  · rw [e 0 (by decide) (by decide) (by decide)]; exact r3
  · rw [e 4 (by decide) (by decide) (by decide)]; exact r4 i hi
  · rw [e 2 (by decide) (by decide) (by decide), e 3 (by decide) (by decide) (by decide)]; exact r7 u hu
  · rw [e 11 (by decide) (by decide) (by decide), e 12 (by decide) (by decide) (by decide), e 13 (by decide) (by decide) (by decide), e 15 (by decide) (by decide) (by decide)]; exact r8 q u h1 h2
theorem k_M_steps (hR : xm_R S σ) (hS : am_okS S) {a b : Int32} : xk_M (xm G) 2 y_M_steps [.ref (xk_wA (xm G) 0), .int a, .int b] σ (xk_pi (fun r τ => r = am_steps S a b ∧ xm_R S τ)) := by
  have r1 := hR.1
  have r6 := hR.2.2.2.2.2.1
  have no : ∀ K : xk_K, xk_E K c_M_steps 4 → xk_H K (xm G) c_M_steps 4 RM 2 (some .int) (xk_pi (fun r τ => r = am_steps S a b ∧ xm_R S τ)) → (¬ am_has 64 a ∨ ¬ am_has 64 b ∨ aW S a.toNatClampNeg = true ∨ aW S b.toNatClampNeg = true) → xk_X K (xk_vw (xm G)) σ 32 [(0, .ref (xk_wA (xm G) 0)), (1, .int a), (2, .int b)] [] := by
    intro K hE hc h
    refine x_iconst (-1) hE d_M_steps_32 (by decide) ?_
    exact x_iret hc d_M_steps_33 (⟨by unfold am_steps; rw [if_pos h], hR⟩)
  refine xk_enter (by decide) (Nat.le_of_ble_eq_true rfl) (fun K hE hc => ?_)
  show xk_X K _ _ 0 [(0, _), (1, _), (2, _)] []
  refine x_iload_n hE d_M_steps_0 1 rfl ?_
  refine ca_M_97 hc d_M_steps_1 (k_M_isTile) (fun r τ hq => ?_)
  obtain ⟨ht, rfl⟩ := hq
  rcases ht with ⟨rfl, ht⟩ | ⟨rfl, ht⟩
  · skip
    first | refine xn_if_eq hE d_M_steps_4 (fun z => ?_) (fun z => ?_) | refine x_if_eq hE d_M_steps_4 (fun z => ?_) (fun z => ?_)
    · exact absurd z (by decide)
    · skip
      refine x_iload_n hE d_M_steps_7 2 rfl ?_
      refine ca_M_97 hc d_M_steps_8 (k_M_isTile) (fun r τ hq => ?_)
      obtain ⟨hu, rfl⟩ := hq
      rcases hu with ⟨rfl, hu⟩ | ⟨rfl, hu⟩
      · skip
        first | refine xn_if_eq hE d_M_steps_11 (fun z => ?_) (fun z => ?_) | refine x_if_eq hE d_M_steps_11 (fun z => ?_) (fun z => ?_)
        · exact absurd z (by decide)
        · skip
          obtain ⟨ja, hja, rfl⟩ := am_has_of (by decide) ht
          obtain ⟨jb, hjb, rfl⟩ := am_has_of (by decide) hu
          have ea : (nI ja).toNatClampNeg = ja := nI_clamp (by omega)
          have eb : (nI jb).toNatClampNeg = jb := nI_clamp (by omega)
          refine x_aload_n hE d_M_steps_14 0 rfl ?_
          refine gf_M_7 hc d_M_steps_15 ?_
          refine x_iload_n hE d_M_steps_18 1 rfl ?_
          refine x_zald hc rfl rfl (by omega) (by decide) d_M_steps_19 (r1 ja hja) ?_
          cases hwa : aW S ja with
          | true =>
            first | refine xn_if_ne hE d_M_steps_20 (fun z => ?_) (fun z => ?_) | refine x_if_ne hE d_M_steps_20 (fun z => ?_) (fun z => ?_)
            · exact no K hE hc (Or.inr (Or.inr (Or.inl (by rw [ea]; exact hwa))))
            · exact absurd z (by decide)
          | false =>
            first | refine xn_if_ne hE d_M_steps_20 (fun z => ?_) (fun z => ?_) | refine x_if_ne hE d_M_steps_20 (fun z => ?_) (fun z => ?_)
            · exact absurd rfl z
            · skip
              refine x_aload_n hE d_M_steps_23 0 rfl ?_
              refine gf_M_7 hc d_M_steps_24 ?_
              refine x_iload_n hE d_M_steps_27 2 rfl ?_
              refine x_zald hc rfl rfl (by omega) (by decide) d_M_steps_28 (r1 jb hjb) ?_
              cases hwb : aW S jb with
              | true =>
                first | refine xn_if_eq hE d_M_steps_29 (fun z => ?_) (fun z => ?_) | refine x_if_eq hE d_M_steps_29 (fun z => ?_) (fun z => ?_)
                · exact absurd z (by decide)
                · exact no K hE hc (Or.inr (Or.inr (Or.inr (by rw [eb]; exact hwb))))
              | false =>
                first | refine xn_if_eq hE d_M_steps_29 (fun z => ?_) (fun z => ?_) | refine x_if_eq hE d_M_steps_29 (fun z => ?_) (fun z => ?_)
                · skip
                  refine x_aload_n hE d_M_steps_34 0 rfl ?_
                  refine x_iload_n hE d_M_steps_35 1 rfl ?_
                  refine x_iload_n hE d_M_steps_36 2 rfl ?_
                  refine x_iconst (nI 0) hE d_M_steps_37 (by decide) ?_
                  have hav0 : ∀ q, (fun _ => false : Nat → Bool) q = (decide (0 = 1) && am_taken (aP S) q (aN S)) := fun q => by simp
                  refine ca_M_117 hc d_M_steps_38 (k_M_find hS.1 r6 hS.2.2.2.2 r1 hja hjb (by decide) hav0) (fun r τ hq => ?_)
                  obtain ⟨rfl, q1, q2⟩ := hq
                  have hfo := am_find_ok (free := am_free (aW S) (fun _ => false) jb) (b := jb) hja
                  have e : am_steps S (nI ja) (nI jb) = xc_dp (am_end (am_free (aW S) (fun _ => false) jb) ja jb) jb := by
                    unfold am_steps
                    rw [ea, eb, hwa, hwb, if_neg (fun q => by
                      rcases q with q | q | q | q
                      · exact q ht
                      · exact q hu
                      · cases q
                      · cases q)]
                  rw [xm_steps hja] at e
                  have hlt := hfo.1
                  refine x_istore_n [(3, _), (0, _), (1, _), (2, _)] hE d_M_steps_41 rfl (by decide) rfl ?_
                  refine x_iload_n hE d_M_steps_42 0 rfl ?_
                  first | refine xn_if_ne hE d_M_steps_43 (fun g => ?_) (fun g => ?_) | refine x_if_ne hE d_M_steps_43 (fun g => ?_) (fun g => ?_)
                  · skip
                    refine x_iload_n hE d_M_steps_55 0 rfl ?_
                    exact x_iret hc d_M_steps_56 (⟨by rw [e, if_neg (fun q => g q.1)], xm_R_F hR q2⟩)
                  · skip
                    refine x_iload_n hE d_M_steps_46 2 rfl ?_
                    refine x_iload_n hE d_M_steps_47 3 rfl ?_
                    first | refine xn_icmp_eq hE d_M_steps_48 (fun y => ?_) (fun y => ?_) | refine x_icmp_eq hE d_M_steps_48 (fun y => ?_) (fun y => ?_)
                    · skip
                      refine x_iload_n hE d_M_steps_55 0 rfl ?_
                      exact x_iret hc d_M_steps_56 (⟨by rw [e, if_neg (fun q => q.2 y)], xm_R_F hR q2⟩)
                    · skip
                      refine x_iconst (-1) hE d_M_steps_51 (by decide) ?_
                      refine x_goto hE d_M_steps_52 ?_
                      exact x_iret hc d_M_steps_56 (⟨by rw [e, if_pos ⟨g, y⟩], xm_R_F hR q2⟩)
                · exact absurd rfl z
      · skip
        first | refine xn_if_eq hE d_M_steps_11 (fun z => ?_) (fun z => ?_) | refine x_if_eq hE d_M_steps_11 (fun z => ?_) (fun z => ?_)
        · exact no K hE hc (Or.inr (Or.inl hu))
        · exact absurd rfl z
  · skip
    first | refine xn_if_eq hE d_M_steps_4 (fun z => ?_) (fun z => ?_) | refine x_if_eq hE d_M_steps_4 (fun z => ?_) (fun z => ?_)
    · exact no K hE hc (Or.inl ht)
    · exact absurd rfl z
end XM5
end
section
/-! THE REFERENCE: commands, running, replaying, the winner -/
section XM6
variable {G : xk_D} {σ : xk_St} {S : am_S}
theorem k_M_command (hR : xm_R S σ) (hS : am_okS S) {t u k m : Int32} : xk_M (xm G) 1 y_M_command [.ref (xk_wA (xm G) 0), .int t, .int u, .int k, .int m] σ (xk_pi (fun r τ => r = (am_command S t u k m).1 ∧ xm_R (am_command S t u k m).2 τ)) := by
  have hR0 := hR
  have hn8 := hS.1
  have hc24 := hS.2.2.2.1.1
  obtain ⟨r1, r2, r3, r4, r5, r6, r7, r8⟩ := hR
  have n01 : ¬ nI 1 = nI 0 := by decide
  have n02 : ¬ nI 2 = nI 0 := by decide
  have n12 : ¬ nI 2 = nI 1 := by decide
  have n21 : ¬ nI 1 = nI 2 := by decide
  refine xk_enter (by decide) (Nat.le_of_ble_eq_true rfl) (fun K hE hc => ?_)
  show xk_X K _ _ 0 [(0, _), (1, _), (2, _), (3, _), (4, _)] []
  have fail : ¬ (am_has (aN S) u ∧ am_kind (aN S) u k m) → ∀ v5 : Int32, xk_X K (xk_vw (xm G)) σ 68 [(5, .int v5), (0, .ref (xk_wA (xm G) 0)), (1, .int t), (2, .int u), (3, .int k), (4, .int m)] [] := by
    intro h v5
    refine x_iconst (nI 0) hE d_M_command_68 (by decide) ?_
    refine x_istore [(5, _), (0, _), (1, _), (2, _), (3, _), (4, _)] hE d_M_command_69 (by decide) rfl ?_
    refine x_iload hE d_M_command_71 0 rfl ?_
    first | refine xn_if_ne hE d_M_command_73 (fun z => ?_) (fun z => ?_) | refine x_if_ne hE d_M_command_73 (fun z => ?_) (fun z => ?_)
    · exact absurd rfl z
    · skip
      refine x_iconst (-1) hE d_M_command_76 (by decide) ?_
      have e : am_command S t u k m = (-1, S) := by unfold am_command; rw [if_pos h]
      exact x_iret hc d_M_command_77 (by rw [e]; exact ⟨rfl, hR0⟩)
  have fail0 : ¬ (am_has (aN S) u ∧ am_kind (aN S) u k m) → xk_X K (xk_vw (xm G)) σ 21 [(0, .ref (xk_wA (xm G) 0)), (1, .int t), (2, .int u), (3, .int k), (4, .int m)] [] := by
    intro h
    refine x_iconst (nI 0) hE d_M_command_21 (by decide) ?_
    refine x_istore [(5, _), (0, _), (1, _), (2, _), (3, _), (4, _)] hE d_M_command_22 (by decide) rfl ?_
    refine x_iload hE d_M_command_24 0 rfl ?_
    first | refine xn_if_eq hE d_M_command_26 (fun z => ?_) (fun z => ?_) | refine x_if_eq hE d_M_command_26 (fun z => ?_) (fun z => ?_)
    · exact fail h _
    · exact absurd rfl z
  have early : (am_has (aN S) u ∧ am_kind (aN S) u k m) → (aBg S = false ∨ t < nI (aPl S)) → ∀ v5 : Int32, xk_X K (xk_vw (xm G)) σ 93 [(5, .int v5), (0, .ref (xk_wA (xm G) 0)), (1, .int t), (2, .int u), (3, .int k), (4, .int m)] [] := by
    intro h h2 v5
    refine x_bipush (-3) hE d_M_command_93 (by decide) ?_
    have e : am_command S t u k m = (-3, S) := by unfold am_command; rw [if_neg (Classical.not_not.mpr h), if_pos h2]
    exact x_iret hc d_M_command_95 (by rw [e]; exact ⟨rfl, hR0⟩)
  have good : (am_has (aN S) u ∧ am_kind (aN S) u k m) → ∀ v5 : Int32, xk_X K (xk_vw (xm G)) σ 64 [(5, .int v5), (0, .ref (xk_wA (xm G) 0)), (1, .int t), (2, .int u), (3, .int k), (4, .int m)] [] := by
    intro hg v5
    refine x_iconst (nI 1) hE d_M_command_64 (by decide) ?_
    refine x_goto hE d_M_command_65 ?_
    refine x_istore [(5, _), (0, _), (1, _), (2, _), (3, _), (4, _)] hE d_M_command_69 (by decide) rfl ?_
    refine x_iload hE d_M_command_71 0 rfl ?_
    first | refine xn_if_ne hE d_M_command_73 (fun z => ?_) (fun z => ?_) | refine x_if_ne hE d_M_command_73 (fun z => ?_) (fun z => ?_)
    · skip
      refine x_aload_n hE d_M_command_78 1 rfl ?_
      refine gf_M_93 hc d_M_command_79 r2 ?_
      cases hbg : aBg S with
      | false =>
        first | refine xn_if_eq hE d_M_command_82 (fun y => ?_) (fun y => ?_) | refine x_if_eq hE d_M_command_82 (fun y => ?_) (fun y => ?_)
        · exact early hg (Or.inl hbg) _
        · exact absurd rfl y
      | true =>
        first | refine xn_if_eq hE d_M_command_82 (fun y => ?_) (fun y => ?_) | refine x_if_eq hE d_M_command_82 (fun y => ?_) (fun y => ?_)
        · exact absurd y (by decide)
        · skip
          refine x_iload_n hE d_M_command_85 2 rfl ?_
          refine x_aload_n hE d_M_command_86 1 rfl ?_
          refine gf_M_107 hc d_M_command_87 r3 ?_
          refine x_icmp_ge hE d_M_command_90 (fun g => ?_) (fun g => ?_)
          · skip
            have g1 : ¬ t < nI (aPl S) := by rw [Int32.not_lt]; exact g
            have hneg : ¬ (aBg S = false ∨ t < nI (aPl S)) := fun q => by
              rcases q with q | q
              · rw [hbg] at q; cases q
              · exact g1 q
            refine x_aload_n hE d_M_command_96 1 rfl ?_
            refine gf_M_110 hc d_M_command_97 r5.1 ?_
            refine x_bipush (nI 24) hE d_M_command_100 (by decide) ?_
            first | refine xn_icmp_ne hE d_M_command_102 (fun h4 => ?_) (fun h4 => ?_) | refine x_icmp_ne hE d_M_command_102 (fun h4 => ?_) (fun h4 => ?_)
            · skip
              obtain ⟨ju, hju, rfl⟩ := am_has_of (by omega) hg.1
              obtain ⟨kd, mm, k1, rfl, k3, k4, k5⟩ := am_kind_of hn8 hg.2
              have hm : (if kd = 0 then 0 else mm) = (if kd = 0 then 0 else m.toNatClampNeg) := by
                by_cases e2 : kd = 0
                · rw [if_pos e2, if_pos e2]
                · rw [if_neg e2, if_neg e2, k3 e2, nI_clamp (by omega)]
              have e : am_command S t (nI ju) (nI kd) m = (nI (aCn S), (aW S, aN S, aSd S, aSt S, aBg S, aPl S, aNm S, aCn S + 1, am_set (aL S) (aCn S) (t, ju, kd, if kd = 0 then 0 else mm), aP S)) := by
                unfold am_command
                rw [if_neg (Classical.not_not.mpr hg), if_neg hneg, if_neg h4, nI_clamp (by omega), nI_clamp (by omega), hm]
              have rest : ∀ (v v5 : Int32), v = nI (if kd = 0 then 0 else mm) → xk_X K (xk_vw (xm G)) (xk_up (xk_up (xk_up σ 5 (aCn S) t) 6 (aCn S) (nI ju)) 7 (aCn S) (nI kd)) 156 [(5, .int v5), (0, .ref (xk_wA (xm G) 0)), (1, .int t), (2, .int (nI ju)), (3, .int (nI kd)), (4, .int m)] [.int v, .int (nI (aCn S)), .ref (xk_wA (xm G) 8)] := by
                intro v v5 hv
                refine x_iast hc rfl rfl (by omega) (by decide) d_M_command_156 ?_
                refine x_aload_n hE d_M_command_157 1 rfl ?_
                refine x_dup hE d_M_command_158 rfl ?_
                refine gf_M_110 hc d_M_command_159 (show _ = nI (aCn S) by simp (disch := omega) only [xk_up_s, xk_up_o]; exact r5.1) ?_
                refine x_iconst (nI 1) hE d_M_command_162 (by decide) ?_
                first | refine xn_iadd hE d_M_command_163 ?_ | refine x_iadd hE d_M_command_163 ?_
                refine pf_M_110 hc d_M_command_164 ?_
                refine x_aload_n hE d_M_command_167 1 rfl ?_
                refine gf_M_110 hc d_M_command_168 (by rw [xk_up_s, if_pos rfl]) ?_
                refine x_iconst (nI 1) hE d_M_command_171 (by decide) ?_
                first | refine xn_isub hE d_M_command_172 ?_ | refine x_isub hE d_M_command_172 ?_
                refine x_iret hc d_M_command_173 ?_
                rw [e]
                refine ⟨rfl, r1.mv ?_, ?_, ?_, fun i hi => ?_, ⟨?_, fun e he => ?_⟩, ⟨?_, fun u hu => ?_⟩, fun u hu => ?_, fun q u h1 h2 => ?_⟩
                · simp (disch := omega) only [xk_up_o]
                · simp (disch := omega) only [xk_up_s, xk_up_o]; exact r2
                · simp (disch := omega) only [xk_up_s, xk_up_o]; exact r3
                · simp (disch := omega) only [xk_up_s, xk_up_o]; exact r4 i hi
                · rw [xk_up_s, if_pos rfl]
                · have he : e < aCn S + 1 := he
                  simp (disch := omega) only [xk_up_s, xk_up_o]
                  show _ = (am_set (aL S) (aCn S) (t, ju, kd, if kd = 0 then 0 else mm) e).1 ∧ _ = nI (am_set (aL S) (aCn S) (t, ju, kd, if kd = 0 then 0 else mm) e).2.1 ∧ _ = nI (am_set (aL S) (aCn S) (t, ju, kd, if kd = 0 then 0 else mm) e).2.2.1 ∧ _ = nI (am_set (aL S) (aCn S) (t, ju, kd, if kd = 0 then 0 else mm) e).2.2.2
                  by_cases hec : e = aCn S
                  · subst hec
                    rw [am_set_s, if_pos rfl, if_pos rfl, if_pos rfl, if_pos rfl]
                    exact ⟨rfl, rfl, rfl, hv⟩
                  · rw [am_set_n hec, if_neg hec, if_neg hec, if_neg hec, if_neg hec]
                    exact r5.2 e (by omega)
                · simp (disch := omega) only [xk_up_s, xk_up_o]; exact r6.1
                · have h := r6.2 u hu
                  unfold xm_at at h ⊢
                  simp (disch := omega) only [xk_up_o]
                  exact h
                · simp (disch := omega) only [xk_up_o]; exact r7 u hu
                · simp (disch := omega) only [xk_up_o]; exact r8 q u h1 h2
              refine x_aload_n hE d_M_command_108 1 rfl ?_
              refine gf_M_23 hc d_M_command_109 ?_
              refine x_aload_n hE d_M_command_112 1 rfl ?_
              refine gf_M_110 hc d_M_command_113 r5.1 ?_
              refine x_iload_n hE d_M_command_116 2 rfl ?_
              refine x_iast hc rfl rfl (by omega) (by decide) d_M_command_117 ?_
              refine x_aload_n hE d_M_command_118 1 rfl ?_
              refine gf_M_26 hc d_M_command_119 ?_
              refine x_aload_n hE d_M_command_122 1 rfl ?_
              refine gf_M_110 hc d_M_command_123 (show _ = nI (aCn S) by simp (disch := omega) only [xk_up_s, xk_up_o]; exact r5.1) ?_
              refine x_iload_n hE d_M_command_126 3 rfl ?_
              refine x_iast hc rfl rfl (by omega) (by decide) d_M_command_127 ?_
              refine x_aload_n hE d_M_command_128 1 rfl ?_
              refine gf_M_29 hc d_M_command_129 ?_
              refine x_aload_n hE d_M_command_132 1 rfl ?_
              refine gf_M_110 hc d_M_command_133 (show _ = nI (aCn S) by simp (disch := omega) only [xk_up_s, xk_up_o]; exact r5.1) ?_
              refine x_iload_n hE d_M_command_136 4 rfl ?_
              refine x_iast hc rfl rfl (by omega) (by decide) d_M_command_137 ?_
              refine x_aload_n hE d_M_command_138 1 rfl ?_
              refine gf_M_32 hc d_M_command_139 ?_
              refine x_aload_n hE d_M_command_142 1 rfl ?_
              refine gf_M_110 hc d_M_command_143 (show _ = nI (aCn S) by simp (disch := omega) only [xk_up_s, xk_up_o]; exact r5.1) ?_
              refine x_iload_n hE d_M_command_146 4 rfl ?_
              first | refine xn_if_ne hE d_M_command_147 (fun w => ?_) (fun w => ?_) | refine x_if_ne hE d_M_command_147 (fun w => ?_) (fun w => ?_)
              · skip
                refine x_iload hE d_M_command_154 5 rfl ?_
                exact rest _ _ (by rw [if_neg w]; exact k3 w)
              · skip
                refine x_iconst (nI 0) hE d_M_command_150 (by decide) ?_
                refine x_goto hE d_M_command_151 ?_
                exact rest _ _ (by rw [if_pos w])
            · skip
              refine x_bipush (-2) hE d_M_command_105 (by decide) ?_
              have e : am_command S t u k m = (-2, S) := by unfold am_command; rw [if_neg (Classical.not_not.mpr hg), if_neg hneg, if_pos h4]
              exact x_iret hc d_M_command_107 (by rw [e]; exact ⟨rfl, hR0⟩)
          · exact early hg (Or.inr (by rw [← Int32.not_le]; exact g)) _
    · exact absurd z (by decide)
  refine x_aload_n hE d_M_command_0 0 rfl ?_
  refine x_iload_n hE d_M_command_1 2 rfl ?_
  refine ca_M_104 hc d_M_command_2 (k_M_isUnit r6.1) (fun r τ hq => ?_)
  obtain ⟨ht, rfl⟩ := hq
  rcases ht with ⟨rfl, ht⟩ | ⟨rfl, ht⟩
  · skip
    first | refine xn_if_eq hE d_M_command_5 (fun z => ?_) (fun z => ?_) | refine x_if_eq hE d_M_command_5 (fun z => ?_) (fun z => ?_)
    · exact absurd z (by decide)
    · skip
      refine x_iload_n hE d_M_command_8 3 rfl ?_
      refine x_if_lt hE d_M_command_9 (fun h1 => ?_) (fun h1 => ?_)
      · refine fail0 (fun q => ?_)
        rcases q.2 with q | q | q
        · rw [q] at h1; exact absurd h1 (by decide)
        · rw [q.1] at h1; exact absurd h1 (by decide)
        · rw [q.1] at h1; exact absurd h1 (by decide)
      · skip
        refine x_iload_n hE d_M_command_12 3 rfl ?_
        refine x_iconst (nI 2) hE d_M_command_13 (by decide) ?_
        refine x_icmp_gt hE d_M_command_14 (fun h2 => ?_) (fun h2 => ?_)
        · refine fail0 (fun q => ?_)
          rcases q.2 with q | q | q
          · rw [q] at h2; exact absurd h2 (by decide)
          · rw [q.1] at h2; exact absurd h2 (by decide)
          · rw [q.1] at h2; exact absurd h2 (by decide)
        · skip
          obtain ⟨kd, hkd, rfl⟩ : ∃ kd, kd ≤ 2 ∧ k = nI kd := nI_of2 (M := nI 2) (by decide) h1 (by rw [← Int32.not_lt]; exact h2)
          refine x_iconst (nI 1) hE d_M_command_17 (by decide) ?_
          refine x_goto hE d_M_command_18 ?_
          refine x_istore [(5, _), (0, _), (1, _), (2, _), (3, _), (4, _)] hE d_M_command_22 (by decide) rfl ?_
          refine x_iload hE d_M_command_24 0 rfl ?_
          first | refine xn_if_eq hE d_M_command_26 (fun y => ?_) (fun y => ?_) | refine x_if_eq hE d_M_command_26 (fun y => ?_) (fun y => ?_)
          · exact absurd y (by decide)
          · skip
            refine x_iload_n hE d_M_command_29 4 rfl ?_
            first | refine xn_if_eq hE d_M_command_30 (fun k0 => ?_) (fun k0 => ?_) | refine x_if_eq hE d_M_command_30 (fun k0 => ?_) (fun k0 => ?_)
            · subst k0
              exact good ⟨ht, Or.inl rfl⟩ _
            · skip
              refine x_iload_n hE d_M_command_33 4 rfl ?_
              refine x_iconst (nI 1) hE d_M_command_34 (by decide) ?_
              first | refine xn_icmp_ne hE d_M_command_35 (fun k1 => ?_) (fun k1 => ?_) | refine x_icmp_ne hE d_M_command_35 (fun k1 => ?_) (fun k1 => ?_)
              · skip
                have k2 : kd = 2 := by omega
                subst k2
                have hno : ¬ (am_has (aN S) m ∧ ¬ m = u) → ¬ (am_has (aN S) u ∧ am_kind (aN S) u (nI 2) m) := fun z q => by
                  rcases q.2 with q | q | q
                  · exact n02 q
                  · exact n12 q.1
                  · exact z q.2
                refine x_aload_n hE d_M_command_49 1 rfl ?_
                refine x_iload hE d_M_command_50 5 rfl ?_
                refine ca_M_104 hc d_M_command_52 (k_M_isUnit r6.1) (fun r τ hq => ?_)
                obtain ⟨hm, rfl⟩ := hq
                rcases hm with ⟨rfl, hm⟩ | ⟨rfl, hm⟩
                · skip
                  first | refine xn_if_eq hE d_M_command_55 (fun x => ?_) (fun x => ?_) | refine x_if_eq hE d_M_command_55 (fun x => ?_) (fun x => ?_)
                  · exact absurd x (by decide)
                  · skip
                    refine x_iload hE d_M_command_58 5 rfl ?_
                    refine x_iload_n hE d_M_command_60 3 rfl ?_
                    refine x_icmp_eq hE d_M_command_61 (fun w => ?_) (fun w => ?_)
                    · exact fail (hno (fun q => q.2 w)) _
                    · exact good ⟨ht, Or.inr (Or.inr ⟨rfl, hm, w⟩)⟩ _
                · skip
                  first | refine xn_if_eq hE d_M_command_55 (fun x => ?_) (fun x => ?_) | refine x_if_eq hE d_M_command_55 (fun x => ?_) (fun x => ?_)
                  · exact fail (hno (fun q => hm q.1)) _
                  · exact absurd rfl x
              · skip
                subst k1
                refine x_iload hE d_M_command_38 5 rfl ?_
                refine ca_M_97 hc d_M_command_40 (k_M_isTile) (fun r τ hq => ?_)
                obtain ⟨hm, rfl⟩ := hq
                rcases hm with ⟨rfl, hm⟩ | ⟨rfl, hm⟩
                · skip
                  first | refine xn_if_eq hE d_M_command_43 (fun x => ?_) (fun x => ?_) | refine x_if_eq hE d_M_command_43 (fun x => ?_) (fun x => ?_)
                  · exact absurd x (by decide)
                  · skip
                    refine x_goto hE d_M_command_46 ?_
                    exact good ⟨ht, Or.inr (Or.inl ⟨rfl, hm⟩)⟩ _
                · skip
                  first | refine xn_if_eq hE d_M_command_43 (fun x => ?_) (fun x => ?_) | refine x_if_eq hE d_M_command_43 (fun x => ?_) (fun x => ?_)
                  · refine fail (fun q => ?_) _
                    rcases q.2 with q | q | q
                    · exact n01 q
                    · exact hm q.2
                    · exact n21 q.1
                  · exact absurd rfl x
  · skip
    first | refine xn_if_eq hE d_M_command_5 (fun z => ?_) (fun z => ?_) | refine x_if_eq hE d_M_command_5 (fun z => ?_) (fun z => ?_)
    · exact fail0 (fun q => ht q.1)
    · exact absurd rfl z
theorem k_M_forget (hR : xm_R S σ) (hS : am_okS S) {k : Int32} : xk_M (xm G) 0 y_M_forget [.ref (xk_wA (xm G) 0), .int k] σ (xk_pi (fun r τ => r = (am_forget S k).1 ∧ xm_R (am_forget S k).2 τ)) := by
  have hR0 := hR
  have hn8 := hS.1
  have hc24 := hS.2.2.2.1.1
  obtain ⟨r1, r2, r3, r4, r5, r6, r7, r8⟩ := hR
  have no : ∀ K : xk_K, xk_E K c_M_forget 3 → xk_H K (xm G) c_M_forget 3 RM 0 (some .boolean) (xk_pi (fun r τ => r = (am_forget S k).1 ∧ xm_R (am_forget S k).2 τ)) → ¬ am_has (aCn S) k → xk_X K (xk_vw (xm G)) σ 12 [(0, .ref (xk_wA (xm G) 0)), (1, .int k)] [] := by
    intro K hE hc h
    refine x_iconst (nI 0) hE d_M_forget_12 (by decide) ?_
    have e : am_forget S k = (nI 0, S) := by unfold am_forget; rw [if_pos h]
    exact x_zret hc d_M_forget_13 (by first | exact Or.inl rfl | exact Or.inr rfl | assumption | omega) (by rw [e]; exact ⟨rfl, hR0⟩)
  refine xk_enter (by decide) (Nat.le_of_ble_eq_true rfl) (fun K hE hc => ?_)
  show xk_X K _ _ 0 [(0, _), (1, _)] []
  refine x_iload_n hE d_M_forget_0 1 rfl ?_
  refine x_if_lt hE d_M_forget_1 (fun h1 => ?_) (fun h1 => ?_)
  · exact no K hE hc (fun q => q.1 h1)
  · skip
    refine x_iload_n hE d_M_forget_4 1 rfl ?_
    refine x_aload_n hE d_M_forget_5 0 rfl ?_
    refine gf_M_110 hc d_M_forget_6 r5.1 ?_
    refine x_icmp_lt hE d_M_forget_9 (fun h2 => ?_) (fun h2 => ?_)
    · skip
      have hk : am_has (aCn S) k := ⟨h1, by rw [Int32.not_le]; exact h2⟩
      obtain ⟨j, hj, rfl⟩ := am_has_of (by omega) hk
      have e : am_forget S (nI j) = (nI 1, (aW S, aN S, aSd S, aSt S, aBg S, aPl S, aNm S, aCn S - 1, am_del (aL S) j, aP S)) := by
        unfold am_forget
        rw [if_neg (Classical.not_not.mpr hk), nI_clamp (by omega)]
      refine x_aload_n hE d_M_forget_14 0 rfl ?_
      refine x_dup hE d_M_forget_15 rfl ?_
      refine gf_M_110 hc d_M_forget_16 r5.1 ?_
      refine x_iconst (nI 1) hE d_M_forget_19 (by decide) ?_
      first | refine xn_isub hE d_M_forget_20 ?_ | refine x_isub hE d_M_forget_20 ?_
      refine pf_M_110 hc d_M_forget_21 ?_
      refine x_iload_n hE d_M_forget_24 1 rfl ?_
      refine x_istore_n [(2, _), (0, _), (1, _)] hE d_M_forget_25 rfl (by decide) rfl ?_
      refine x_lv [1, 2, 0] (lv' := [(0, _), (1, _), (2, _)]) rfl ?_
      have loop : ∀ (m i : Nat) (τ : xk_St), i + m = aCn S - 1 → j ≤ i → (∀ r, 5 ≤ r → r ≤ 8 → ∀ e, (e < i → τ.1 r e = σ.1 r (if e < j then e else e + 1)) ∧ (i ≤ e → τ.1 r e = σ.1 r e)) → τ.2 = σ.2 → (∀ r, r < 5 ∨ 8 < r → τ.1 r = (xk_up σ 0 7 (nI (aCn S - 1))).1 r) → xk_X K (xk_vw (xm G)) τ 26 [(0, .ref (xk_wA (xm G) 0)), (1, .int (nI j)), (2, .int (nI i))] [] := by
        intro m
        induction m with
        | zero =>
          intro i τ hi hji hrow h2 ho
          have hc2 : τ.1 0 7 = nI (aCn S - 1) := by rw [ho 0 (by omega), xk_up_s, if_pos rfl]
          refine x_iload_n hE d_M_forget_26 2 rfl ?_
          refine x_aload_n hE d_M_forget_27 0 rfl ?_
          refine gf_M_110 hc d_M_forget_28 hc2 ?_
          first | refine xn_icmp_ge hE d_M_forget_31 (fun h => ?_) (fun h => ?_) | refine x_icmp_ge hE d_M_forget_31 (fun h => ?_) (fun h => ?_)
          · skip
            refine x_iconst (nI 1) hE d_M_forget_96 (by decide) ?_
            refine x_zret hc d_M_forget_97 (Or.inr rfl) ?_
            rw [e]
            refine ⟨rfl, r1.mv (by rw [ho 1 (by omega)]; exact xk_up_o (by decide)), ?_, ?_, fun i hi => ?_, ⟨hc2, fun e he => ?_⟩, ⟨?_, fun u hu => ?_⟩, fun u hu => ?_, fun q u h1 h2 => ?_⟩
            · rw [ho 0 (by omega), xk_up_s, if_neg (by decide)]; exact r2
            · rw [ho 0 (by omega), xk_up_s, if_neg (by decide)]; exact r3
            · rw [ho 4 (by omega), xk_up_o (by decide)]; exact r4 i hi
            · have he : e < aCn S - 1 := he
              rw [((hrow 5 (by omega) (by omega)) e).1 (by omega), ((hrow 6 (by omega) (by omega)) e).1 (by omega), ((hrow 7 (by omega) (by omega)) e).1 (by omega), ((hrow 8 (by omega) (by omega)) e).1 (by omega)]
              show _ = (am_del (aL S) j e).1 ∧ _ = nI (am_del (aL S) j e).2.1 ∧ _ = nI (am_del (aL S) j e).2.2.1 ∧ _ = nI (am_del (aL S) j e).2.2.2
              unfold am_del
              by_cases hej : e < j
              · rw [if_pos hej, if_pos hej]; exact r5.2 e (by omega)
              · rw [if_neg hej, if_neg hej]; exact r5.2 (e + 1) (by omega)
            · rw [ho 0 (by omega), xk_up_s, if_neg (by decide)]; exact r6.1
            · have h := r6.2 u hu
              unfold xm_at at h ⊢
              rw [ho 9 (by omega), ho 10 (by omega), ho 11 (by omega), ho 12 (by omega), ho 13 (by omega), ho 14 (by omega), ho 15 (by omega)]
              simp (disch := omega) only [xk_up_o]
              exact h
            · rw [ho 2 (by omega), ho 3 (by omega)]
              simp (disch := omega) only [xk_up_o]
              exact r7 u hu
            · rw [ho 11 (by omega), ho 12 (by omega), ho 13 (by omega), ho 15 (by omega)]
              simp (disch := omega) only [xk_up_o]
              exact r8 q u h1 h2
          · exact absurd h (by omega)
        | succ m ih =>
          intro i τ hi hji hrow h2 ho
          have hc2 : τ.1 0 7 = nI (aCn S - 1) := by rw [ho 0 (by omega), xk_up_s, if_pos rfl]
          have rd : ∀ r, 5 ≤ r → r ≤ 8 → τ.1 r (i + 1) = σ.1 r (i + 1) := fun r a b => ((hrow r a b) (i + 1)).2 (by omega)
          refine x_iload_n hE d_M_forget_26 2 rfl ?_
          refine x_aload_n hE d_M_forget_27 0 rfl ?_
          refine gf_M_110 hc d_M_forget_28 hc2 ?_
          first | refine xn_icmp_ge hE d_M_forget_31 (fun h => ?_) (fun h => ?_) | refine x_icmp_ge hE d_M_forget_31 (fun h => ?_) (fun h => ?_)
          · exact absurd h (by omega)
          · skip
            refine x_aload_n hE d_M_forget_34 0 rfl ?_
            refine gf_M_23 hc d_M_forget_35 ?_
            refine x_iload_n hE d_M_forget_38 2 rfl ?_
            refine x_aload_n hE d_M_forget_39 0 rfl ?_
            refine gf_M_23 hc d_M_forget_40 ?_
            refine x_iload_n hE d_M_forget_43 2 rfl ?_
            refine x_iconst (nI 1) hE d_M_forget_44 (by decide) ?_
            first | refine xn_iadd hE d_M_forget_45 ?_ | refine x_iadd hE d_M_forget_45 ?_
            refine x_iald hc rfl rfl (by omega) (by decide) d_M_forget_46 (rd 5 (by omega) (by omega)) ?_
            refine x_iast hc rfl rfl (by omega) (by decide) d_M_forget_47 ?_
            refine x_aload_n hE d_M_forget_48 0 rfl ?_
            refine gf_M_26 hc d_M_forget_49 ?_
            refine x_iload_n hE d_M_forget_52 2 rfl ?_
            refine x_aload_n hE d_M_forget_53 0 rfl ?_
            refine gf_M_26 hc d_M_forget_54 ?_
            refine x_iload_n hE d_M_forget_57 2 rfl ?_
            refine x_iconst (nI 1) hE d_M_forget_58 (by decide) ?_
            first | refine xn_iadd hE d_M_forget_59 ?_ | refine x_iadd hE d_M_forget_59 ?_
            refine x_iald hc rfl rfl (by omega) (by decide) d_M_forget_60 (show _ = σ.1 6 (i + 1) by rw [xk_up_o (by decide)]; exact rd 6 (by omega) (by omega)) ?_
            refine x_iast hc rfl rfl (by omega) (by decide) d_M_forget_61 ?_
            refine x_aload_n hE d_M_forget_62 0 rfl ?_
            refine gf_M_29 hc d_M_forget_63 ?_
            refine x_iload_n hE d_M_forget_66 2 rfl ?_
            refine x_aload_n hE d_M_forget_67 0 rfl ?_
            refine gf_M_29 hc d_M_forget_68 ?_
            refine x_iload_n hE d_M_forget_71 2 rfl ?_
            refine x_iconst (nI 1) hE d_M_forget_72 (by decide) ?_
            first | refine xn_iadd hE d_M_forget_73 ?_ | refine x_iadd hE d_M_forget_73 ?_
            refine x_iald hc rfl rfl (by omega) (by decide) d_M_forget_74 (show _ = σ.1 7 (i + 1) by rw [xk_up_o (by decide), xk_up_o (by decide)]; exact rd 7 (by omega) (by omega)) ?_
            refine x_iast hc rfl rfl (by omega) (by decide) d_M_forget_75 ?_
            refine x_aload_n hE d_M_forget_76 0 rfl ?_
            refine gf_M_32 hc d_M_forget_77 ?_
            refine x_iload_n hE d_M_forget_80 2 rfl ?_
            refine x_aload_n hE d_M_forget_81 0 rfl ?_
            refine gf_M_32 hc d_M_forget_82 ?_
            refine x_iload_n hE d_M_forget_85 2 rfl ?_
            refine x_iconst (nI 1) hE d_M_forget_86 (by decide) ?_
            first | refine xn_iadd hE d_M_forget_87 ?_ | refine x_iadd hE d_M_forget_87 ?_
            refine x_iald hc rfl rfl (by omega) (by decide) d_M_forget_88 (show _ = σ.1 8 (i + 1) by rw [xk_up_o (by decide), xk_up_o (by decide), xk_up_o (by decide)]; exact rd 8 (by omega) (by omega)) ?_
            refine x_iast hc rfl rfl (by omega) (by decide) d_M_forget_89 ?_
            refine x_iinc 2 (nI (_ + 1)) [(2, _), (0, _), (1, _)] hE d_M_forget_90 rfl (nI_inc _) (by decide) rfl ?_
            refine x_goto hE d_M_forget_93 ?_
            refine x_lv [1, 2, 0] (lv' := [(0, _), (1, _), (2, _)]) rfl ?_
            refine ih (i + 1) _ (by omega) (by omega) (fun r h5 h8 e => ?_) h2 (fun r hr => ?_)
            · have hrc : r = 5 ∨ r = 6 ∨ r = 7 ∨ r = 8 := by omega
              have hh := (hrow r h5 h8) e
              have key : (xk_up (xk_up (xk_up (xk_up τ 5 i (σ.1 5 (i + 1))) 6 i (σ.1 6 (i + 1))) 7 i (σ.1 7 (i + 1))) 8 i (σ.1 8 (i + 1))).1 r e = if e = i then σ.1 r (i + 1) else τ.1 r e := by
                rcases hrc with rfl | rfl | rfl | rfl <;> simp (disch := omega) only [xk_up_s, xk_up_o]
              rw [key]
              constructor
              · intro he
                by_cases e1 : e = i
                · subst e1; rw [if_pos rfl, if_neg (by omega)]
                · rw [if_neg e1]; exact hh.1 (by omega)
              · intro he
                rw [if_neg (by omega)]; exact hh.2 (by omega)
            · simp (disch := omega) only [xk_up_o]
              exact ho r hr
      refine loop (aCn S - 1 - j) j _ (by omega) (Nat.le_refl _) (fun r h5 h8 e => ?_) rfl (fun _ _ => rfl)
      rw [xk_up_o (by omega)]
      exact ⟨fun he => by rw [if_pos he], fun _ => rfl⟩
    · exact no K hE hc (fun q => q.2 (by rw [← Int32.not_lt]; exact h2))
theorem k_M_run (hR : xm_R S σ) (hS : am_okS S) {m : Int32} : xk_M (xm G) 5 y_M_run [.ref (xk_wA (xm G) 0), .int m] σ (xk_pi (fun r τ => r = (am_run S m).1 ∧ xm_R (am_run S m).2 τ)) := by
  have h200 := hS.2.2.1
  have no : ∀ K : xk_K, xk_E K c_M_run 3 → xk_H K (xm G) c_M_run 3 RM 5 (some .int) (xk_pi (fun r τ => r = (am_run S m).1 ∧ xm_R (am_run S m).2 τ)) → (m < nI 1 ∨ nI 20 < m) → xk_X K (xk_vw (xm G)) σ 11 [(0, .ref (xk_wA (xm G) 0)), (1, .int m)] [] := by
    intro K hE hc h
    refine x_iconst (-1) hE d_M_run_11 (by decide) ?_
    have e : am_run S m = (-1, S) := by unfold am_run; rw [if_pos h]
    exact x_iret hc d_M_run_12 (by rw [e]; exact ⟨rfl, hR⟩)
  refine xk_enter (by decide) (Nat.le_of_ble_eq_true rfl) (fun K hE hc => ?_)
  show xk_X K _ _ 0 [(0, _), (1, _)] []
  refine x_iload_n hE d_M_run_0 1 rfl ?_
  refine x_iconst (nI 1) hE d_M_run_1 (by decide) ?_
  refine x_icmp_lt hE d_M_run_2 (fun h1 => ?_) (fun h1 => ?_)
  · exact no K hE hc (Or.inl h1)
  · skip
    refine x_iload_n hE d_M_run_5 1 rfl ?_
    refine x_bipush (nI 20) hE d_M_run_6 (by decide) ?_
    refine x_icmp_le hE d_M_run_8 (fun h2 => ?_) (fun h2 => ?_)
    · skip
      have hneg : ¬ (m < nI 1 ∨ nI 20 < m) := fun q => by
        rcases q with q | q
        · exact h1 q
        · exact (Int32.not_le.mpr q) h2
      obtain ⟨mm, hm1, rfl⟩ : ∃ mm, mm ≤ 20 ∧ m = nI mm := by
        have hpos : ¬ m < 0 := fun q => h1 (by
          rw [Int32.lt_iff_toInt_lt] at q ⊢
          rw [nI_toInt (by decide)]
          rw [Int32.toInt_zero] at q
          omega)
        exact nI_of2 (M := nI 20) (by decide) hpos h2
      have em : (nI mm).toNatClampNeg = mm := nI_clamp (by omega)
      refine x_aload_n hE d_M_run_13 0 rfl ?_
      refine gf_M_93 hc d_M_run_14 hR.2.1 ?_
      cases hbg : aBg S with
      | false =>
        first | refine xn_if_ne hE d_M_run_17 (fun z => ?_) (fun z => ?_) | refine x_if_ne hE d_M_run_17 (fun z => ?_) (fun z => ?_)
        · exact absurd rfl z
        · skip
          refine x_bipush (-3) hE d_M_run_20 (by decide) ?_
          have e : am_run S (nI mm) = (-3, S) := by unfold am_run; rw [if_neg hneg, if_pos hbg]
          exact x_iret hc d_M_run_22 (by rw [e]; exact ⟨rfl, hR⟩)
      | true =>
        first | refine xn_if_ne hE d_M_run_17 (fun z => ?_) (fun z => ?_) | refine x_if_ne hE d_M_run_17 (fun z => ?_) (fun z => ?_)
        · skip
          refine x_aload_n hE d_M_run_23 0 rfl ?_
          refine gf_M_107 hc d_M_run_24 hR.2.2.1 ?_
          refine x_iload_n hE d_M_run_27 1 rfl ?_
          first | refine xn_iadd hE d_M_run_28 ?_ | refine x_iadd hE d_M_run_28 ?_
          refine x_sipush (nI 200) hE d_M_run_29 (by decide) ?_
          first | refine xn_icmp_le hE d_M_run_32 (fun h3 => ?_) (fun h3 => ?_) | refine x_icmp_le hE d_M_run_32 (fun h3 => ?_) (fun h3 => ?_)
          · skip
            have e : am_run S (nI mm) = (nI (aPl S + mm), am_runs mm S) := by
              unfold am_run
              rw [if_neg hneg, if_neg (by rw [hbg]; simp), em, if_neg (by omega)]
            refine x_iconst (nI 0) hE d_M_run_38 (by decide) ?_
            refine x_istore_n [(2, _), (0, _), (1, _)] hE d_M_run_39 rfl (by decide) rfl ?_
            refine x_lv [1, 2, 0] (lv' := [(0, _), (1, _), (2, _)]) rfl ?_
            have loop : ∀ (q i : Nat) (S2 : am_S) (τ : xk_St), i + q = mm → xm_R S2 τ → am_okS S2 → aBg S2 = true → aPl S2 + q ≤ 200 → am_runs q S2 = am_runs mm S → xk_X K (xk_vw (xm G)) τ 40 [(0, .ref (xk_wA (xm G) 0)), (1, .int (nI mm)), (2, .int (nI i))] [] := by
              intro q
              induction q with
              | zero =>
                intro i S2 τ hi hR2 hS2 hbg2 hr he
                refine x_iload_n hE d_M_run_40 2 rfl ?_
                refine x_iload_n hE d_M_run_41 1 rfl ?_
                first | refine xn_icmp_ge hE d_M_run_42 (fun h => ?_) (fun h => ?_) | refine x_icmp_ge hE d_M_run_42 (fun h => ?_) (fun h => ?_)
                · skip
                  refine x_aload_n hE d_M_run_78 0 rfl ?_
                  refine gf_M_107 hc d_M_run_79 hR2.2.2.1 ?_
                  have he : S2 = am_runs mm S := he
                  refine x_iret hc d_M_run_82 ?_
                  rw [e, ← am_runs_pl, ← he]
                  exact ⟨rfl, hR2⟩
                · exact absurd h (by omega)
              | succ q ih =>
                intro i S2 τ hi hR2 hS2 hbg2 hr he
                obtain ⟨r1, r2, r3, r4, r5, r6, r7, r8⟩ := hR2
                refine x_iload_n hE d_M_run_40 2 rfl ?_
                refine x_iload_n hE d_M_run_41 1 rfl ?_
                first | refine xn_icmp_ge hE d_M_run_42 (fun h => ?_) (fun h => ?_) | refine x_icmp_ge hE d_M_run_42 (fun h => ?_) (fun h => ?_)
                · exact absurd h (by omega)
                · skip
                  refine x_aload_n hE d_M_run_45 0 rfl ?_
                  refine gf_M_20 hc d_M_run_46 ?_
                  refine x_aload_n hE d_M_run_49 0 rfl ?_
                  refine gf_M_107 hc d_M_run_50 r3 ?_
                  refine x_aload_n hE d_M_run_53 0 rfl ?_
                  refine x_aload_n hE d_M_run_54 0 rfl ?_
                  refine gf_M_107 hc d_M_run_55 r3 ?_
                  refine ca_M_145 hc d_M_run_58 (k_M_play hS2.1 r6 hS2.2.2.2.2 r1 (show aPl S2 < 2 ^ 31 by omega) r5 hS2.2.2.2.1) (fun r τ hq => ?_)
                  obtain ⟨rfl, p1, p2⟩ := hq
                  have p3 : τ.1 0 5 = nI (aPl S2) := by rw [p2.2 0 (by omega)]; exact r3
                  refine x_iast hc rfl rfl (by omega) (by decide) d_M_run_61 ?_
                  refine x_aload_n hE d_M_run_62 0 rfl ?_
                  refine x_dup hE d_M_run_63 rfl ?_
                  refine gf_M_107 hc d_M_run_64 (show _ = nI (aPl S2) by rw [xk_up_o (by omega)]; exact p3) ?_
                  refine x_iconst (nI 1) hE d_M_run_67 (by decide) ?_
                  first | refine xn_iadd hE d_M_run_68 ?_ | refine x_iadd hE d_M_run_68 ?_
                  refine pf_M_107 hc d_M_run_69 ?_
                  refine x_iinc 2 (nI (_ + 1)) [(2, _), (0, _), (1, _)] hE d_M_run_72 rfl (nI_inc _) (by decide) rfl ?_
                  refine x_goto hE d_M_run_75 ?_
                  refine x_lv [1, 2, 0] (lv' := [(0, _), (1, _), (2, _)]) rfl ?_
                  refine ih (i + 1) (am_one S2) _ (by omega) ?_ (am_ok_one hS2 (by omega)) hbg2 (by show aPl S2 + 1 + q ≤ 200; omega) he
                  refine ⟨r1.mv ?_, ?_, ?_, fun k hk => ?_, ⟨?_, fun e he => ?_⟩, ⟨?_, fun u hu => ?_⟩, fun u hu => ?_, fun w => by rw [show aBg (am_one S2) = true from hbg2] at w; cases w⟩
                  · rw [xk_up_o (by omega), xk_up_o (by omega), p2.2 1 (by omega)]
                  · rw [xk_up_s, if_neg (by decide), xk_up_o (by omega), p2.2 0 (by omega)]; exact r2
                  · rw [xk_up_s, if_pos rfl]; rfl
                  · have hk : k < aPl S2 + 1 := hk
                    rw [xk_up_o (by omega), xk_up_s]
                    show _ = am_set (aNm S2) (aPl S2) _ k
                    by_cases e1 : k = aPl S2
                    · subst e1; rw [if_pos rfl, am_set_s]
                    · rw [if_neg e1, am_set_n e1, p2.2 4 (by omega)]; exact r4 k (by omega)
                  · rw [xk_up_s, if_neg (by decide), xk_up_o (by omega), p2.2 0 (by omega)]; exact r5.1
                  · simp (disch := omega) only [xk_up_o]
                    rw [p2.2 5 (by omega), p2.2 6 (by omega), p2.2 7 (by omega), p2.2 8 (by omega)]
                    exact r5.2 e he
                  · rw [xk_up_s, if_neg (by decide), xk_up_o (by omega)]; exact p1.1
                  · have h := p1.2 u hu
                    unfold xm_at at h ⊢
                    simp (disch := omega) only [xk_up_o]
                    exact h
                  · simp (disch := omega) only [xk_up_o]
                    rw [p2.2 2 (by omega), p2.2 3 (by omega)]
                    exact r7 u hu
            exact loop mm 0 S σ (by omega) hR hS hbg (by omega) rfl
          · skip
            refine x_bipush (-2) hE d_M_run_35 (by decide) ?_
            have e : am_run S (nI mm) = (-2, S) := by
              unfold am_run
              rw [if_neg hneg, if_neg (by rw [hbg]; simp), em, if_pos (by omega)]
            exact x_iret hc d_M_run_37 (by rw [e]; exact ⟨rfl, hR⟩)
        · exact absurd z (by decide)
    · exact no K hE hc (Or.inr (by rw [← Int32.not_le]; exact h2))
end XM6
end
