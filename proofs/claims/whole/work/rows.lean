section
-- ===== PART A: goes FIRST, ahead of the names: the tables' words, and 'selects' of the private methods out of them =====
/-- a private method of a class that the tables say can be made, by its rows of tables_1 -/
def lw_okq (q : MethodName × Nat) : Prop := (q.1.cls ≠ "java/lang/invoke/MethodHandle" ∧ q.1.cls ≠ "java/lang/invoke/VarHandle") ∧ Cond.instantiable q.1.cls q.2 ∈ tables_1 ∧ Cond.privateMethod q.1 ∈ tables_1 ∧ Cond.instanceMethod q.1 ∈ tables_1
theorem lw_p0 : lw_okq (⟨"LockstepField$Play", "takenTiles", "()J"⟩, 4) := ⟨⟨by decide +kernel, by decide +kernel⟩, List.mem_of_getElem? (i := 67) (by decide +kernel), List.mem_of_getElem? (i := 175) (by decide +kernel), List.mem_of_getElem? (i := 176) (by decide +kernel)⟩
theorem lw_p1 : lw_okq (⟨"LockstepField", "isKindWithNumber", "(III)Z"⟩, 7) := ⟨⟨by decide +kernel, by decide +kernel⟩, List.mem_of_getElem? (i := 11) (by decide +kernel), List.mem_of_getElem? (i := 232) (by decide +kernel), List.mem_of_getElem? (i := 233) (by decide +kernel)⟩
theorem lw_p2 : lw_okq (⟨"LockstepField$Log", "closeGap", "([II)V"⟩, 5) := ⟨⟨by decide +kernel, by decide +kernel⟩, List.mem_of_getElem? (i := 39) (by decide +kernel), List.mem_of_getElem? (i := 248) (by decide +kernel), List.mem_of_getElem? (i := 249) (by decide +kernel)⟩
theorem lw_p3 : lw_okq (⟨"LockstepField$Play", "giveOrders", "(ILLockstepField$Log;)V"⟩, 4) := ⟨⟨by decide +kernel, by decide +kernel⟩, List.mem_of_getElem? (i := 67) (by decide +kernel), List.mem_of_getElem? (i := 263) (by decide +kernel), List.mem_of_getElem? (i := 264) (by decide +kernel)⟩
theorem lw_p4 : lw_okq (⟨"LockstepField$Play", "follow", "(LLockstepField$Unit;)V"⟩, 4) := ⟨⟨by decide +kernel, by decide +kernel⟩, List.mem_of_getElem? (i := 67) (by decide +kernel), List.mem_of_getElem? (i := 268) (by decide +kernel), List.mem_of_getElem? (i := 269) (by decide +kernel)⟩
theorem lw_p5 : lw_okq (⟨"LockstepField$Play", "goalOf", "(LLockstepField$Unit;)I"⟩, 4) := ⟨⟨by decide +kernel, by decide +kernel⟩, List.mem_of_getElem? (i := 67) (by decide +kernel), List.mem_of_getElem? (i := 272) (by decide +kernel), List.mem_of_getElem? (i := 273) (by decide +kernel)⟩
theorem lw_p6 : lw_okq (⟨"LockstepField$Play", "walk", "(LLockstepField$Unit;I)V"⟩, 4) := ⟨⟨by decide +kernel, by decide +kernel⟩, List.mem_of_getElem? (i := 67) (by decide +kernel), List.mem_of_getElem? (i := 288) (by decide +kernel), List.mem_of_getElem? (i := 289) (by decide +kernel)⟩
theorem lw_p7 : lw_okq (⟨"LockstepField$Play", "findPath", "(LLockstepField$Unit;IJ)V"⟩, 4) := ⟨⟨by decide +kernel, by decide +kernel⟩, List.mem_of_getElem? (i := 67) (by decide +kernel), List.mem_of_getElem? (i := 300) (by decide +kernel), List.mem_of_getElem? (i := 301) (by decide +kernel)⟩
theorem lw_p8 : lw_okq (⟨"LockstepField$Play", "exchangeBlows", "()V"⟩, 4) := ⟨⟨by decide +kernel, by decide +kernel⟩, List.mem_of_getElem? (i := 67) (by decide +kernel), List.mem_of_getElem? (i := 333) (by decide +kernel), List.mem_of_getElem? (i := 334) (by decide +kernel)⟩
theorem lw_p9 : lw_okq (⟨"LockstepField$Play", "restAll", "()V"⟩, 4) := ⟨⟨by decide +kernel, by decide +kernel⟩, List.mem_of_getElem? (i := 67) (by decide +kernel), List.mem_of_getElem? (i := 349) (by decide +kernel), List.mem_of_getElem? (i := 350) (by decide +kernel)⟩
theorem lw_p10 : lw_okq (⟨"LockstepField$Play", "sum", "()I"⟩, 4) := ⟨⟨by decide +kernel, by decide +kernel⟩, List.mem_of_getElem? (i := 67) (by decide +kernel), List.mem_of_getElem? (i := 357) (by decide +kernel), List.mem_of_getElem? (i := 358) (by decide +kernel)⟩
theorem lw_p11 : lw_okq (⟨"LockstepFieldModel", "isTaken", "(I)Z"⟩, 30) := ⟨⟨by decide +kernel, by decide +kernel⟩, List.mem_of_getElem? (i := 410) (by decide +kernel), List.mem_of_getElem? (i := 515) (by decide +kernel), List.mem_of_getElem? (i := 516) (by decide +kernel)⟩
theorem lw_p12 : lw_okq (⟨"LockstepFieldModel", "isUnit", "(I)Z"⟩, 30) := ⟨⟨by decide +kernel, by decide +kernel⟩, List.mem_of_getElem? (i := 410) (by decide +kernel), List.mem_of_getElem? (i := 531) (by decide +kernel), List.mem_of_getElem? (i := 532) (by decide +kernel)⟩
theorem lw_p13 : lw_okq (⟨"LockstepFieldModel", "find", "(IIZ)I"⟩, 30) := ⟨⟨by decide +kernel, by decide +kernel⟩, List.mem_of_getElem? (i := 410) (by decide +kernel), List.mem_of_getElem? (i := 543) (by decide +kernel), List.mem_of_getElem? (i := 544) (by decide +kernel)⟩
theorem lw_p14 : lw_okq (⟨"LockstepFieldModel", "play", "(I)I"⟩, 30) := ⟨⟨by decide +kernel, by decide +kernel⟩, List.mem_of_getElem? (i := 410) (by decide +kernel), List.mem_of_getElem? (i := 554) (by decide +kernel), List.mem_of_getElem? (i := 555) (by decide +kernel)⟩
theorem lw_p15 : lw_okq (⟨"LockstepFieldModel", "obey", "(I)V"⟩, 30) := ⟨⟨by decide +kernel, by decide +kernel⟩, List.mem_of_getElem? (i := 410) (by decide +kernel), List.mem_of_getElem? (i := 558) (by decide +kernel), List.mem_of_getElem? (i := 559) (by decide +kernel)⟩
def lw_privs_1 : List (MethodName × Nat) := [(⟨"LockstepField$Play", "takenTiles", "()J"⟩, 4), (⟨"LockstepField", "isKindWithNumber", "(III)Z"⟩, 7), (⟨"LockstepField$Log", "closeGap", "([II)V"⟩, 5), (⟨"LockstepField$Play", "giveOrders", "(ILLockstepField$Log;)V"⟩, 4), (⟨"LockstepField$Play", "follow", "(LLockstepField$Unit;)V"⟩, 4), (⟨"LockstepField$Play", "goalOf", "(LLockstepField$Unit;)I"⟩, 4), (⟨"LockstepField$Play", "walk", "(LLockstepField$Unit;I)V"⟩, 4), (⟨"LockstepField$Play", "findPath", "(LLockstepField$Unit;IJ)V"⟩, 4), (⟨"LockstepField$Play", "exchangeBlows", "()V"⟩, 4), (⟨"LockstepField$Play", "restAll", "()V"⟩, 4), (⟨"LockstepField$Play", "sum", "()I"⟩, 4), (⟨"LockstepFieldModel", "isTaken", "(I)Z"⟩, 30), (⟨"LockstepFieldModel", "isUnit", "(I)Z"⟩, 30), (⟨"LockstepFieldModel", "find", "(IIZ)I"⟩, 30), (⟨"LockstepFieldModel", "play", "(I)I"⟩, 30), (⟨"LockstepFieldModel", "obey", "(I)V"⟩, 30)]
theorem lw_r1 : ∀ q ∈ lw_privs_1, lw_okq q := List.forall_mem_cons.mpr ⟨lw_p0, List.forall_mem_cons.mpr ⟨lw_p1, List.forall_mem_cons.mpr ⟨lw_p2, List.forall_mem_cons.mpr ⟨lw_p3, List.forall_mem_cons.mpr ⟨lw_p4, List.forall_mem_cons.mpr ⟨lw_p5, List.forall_mem_cons.mpr ⟨lw_p6, List.forall_mem_cons.mpr ⟨lw_p7, List.forall_mem_cons.mpr ⟨lw_p8, List.forall_mem_cons.mpr ⟨lw_p9, List.forall_mem_cons.mpr ⟨lw_p10, List.forall_mem_cons.mpr ⟨lw_p11, List.forall_mem_cons.mpr ⟨lw_p12, List.forall_mem_cons.mpr ⟨lw_p13, List.forall_mem_cons.mpr ⟨lw_p14, List.forall_mem_cons.mpr ⟨lw_p15, fun _ h => absurd h List.not_mem_nil⟩⟩⟩⟩⟩⟩⟩⟩⟩⟩⟩⟩⟩⟩⟩⟩
theorem lw_p16 : lw_okq (⟨"LockstepFieldModel", "move", "(I)V"⟩, 30) := ⟨⟨by decide +kernel, by decide +kernel⟩, List.mem_of_getElem? (i := 410) (by decide +kernel), List.mem_of_getElem? (i := 562) (by decide +kernel), List.mem_of_getElem? (i := 563) (by decide +kernel)⟩
theorem lw_p17 : lw_okq (⟨"LockstepFieldModel", "stop", "(I)V"⟩, 30) := ⟨⟨by decide +kernel, by decide +kernel⟩, List.mem_of_getElem? (i := 410) (by decide +kernel), List.mem_of_getElem? (i := 566) (by decide +kernel), List.mem_of_getElem? (i := 567) (by decide +kernel)⟩
theorem lw_p18 : lw_okq (⟨"LockstepFieldModel", "take", "(II)V"⟩, 30) := ⟨⟨by decide +kernel, by decide +kernel⟩, List.mem_of_getElem? (i := 410) (by decide +kernel), List.mem_of_getElem? (i := 573) (by decide +kernel), List.mem_of_getElem? (i := 574) (by decide +kernel)⟩
theorem lw_p19 : lw_okq (⟨"LockstepFieldModel", "step", "(IIZ)V"⟩, 30) := ⟨⟨by decide +kernel, by decide +kernel⟩, List.mem_of_getElem? (i := 410) (by decide +kernel), List.mem_of_getElem? (i := 577) (by decide +kernel), List.mem_of_getElem? (i := 578) (by decide +kernel)⟩
theorem lw_p20 : lw_okq (⟨"LockstepFieldModel", "fight", "()V"⟩, 30) := ⟨⟨by decide +kernel, by decide +kernel⟩, List.mem_of_getElem? (i := 410) (by decide +kernel), List.mem_of_getElem? (i := 581) (by decide +kernel), List.mem_of_getElem? (i := 582) (by decide +kernel)⟩
theorem lw_p21 : lw_okq (⟨"LockstepFieldModel", "layAside", "()V"⟩, 30) := ⟨⟨by decide +kernel, by decide +kernel⟩, List.mem_of_getElem? (i := 410) (by decide +kernel), List.mem_of_getElem? (i := 589) (by decide +kernel), List.mem_of_getElem? (i := 590) (by decide +kernel)⟩
theorem lw_p22 : lw_okq (⟨"LockstepFieldModel", "putBack", "()V"⟩, 30) := ⟨⟨by decide +kernel, by decide +kernel⟩, List.mem_of_getElem? (i := 410) (by decide +kernel), List.mem_of_getElem? (i := 593) (by decide +kernel), List.mem_of_getElem? (i := 594) (by decide +kernel)⟩
def lw_privs_2 : List (MethodName × Nat) := [(⟨"LockstepFieldModel", "move", "(I)V"⟩, 30), (⟨"LockstepFieldModel", "stop", "(I)V"⟩, 30), (⟨"LockstepFieldModel", "take", "(II)V"⟩, 30), (⟨"LockstepFieldModel", "step", "(IIZ)V"⟩, 30), (⟨"LockstepFieldModel", "fight", "()V"⟩, 30), (⟨"LockstepFieldModel", "layAside", "()V"⟩, 30), (⟨"LockstepFieldModel", "putBack", "()V"⟩, 30)]
theorem lw_r2 : ∀ q ∈ lw_privs_2, lw_okq q := List.forall_mem_cons.mpr ⟨lw_p16, List.forall_mem_cons.mpr ⟨lw_p17, List.forall_mem_cons.mpr ⟨lw_p18, List.forall_mem_cons.mpr ⟨lw_p19, List.forall_mem_cons.mpr ⟨lw_p20, List.forall_mem_cons.mpr ⟨lw_p21, List.forall_mem_cons.mpr ⟨lw_p22, fun _ h => absurd h List.not_mem_nil⟩⟩⟩⟩⟩⟩⟩
def lw_privs : List (MethodName × Nat) := lw_privs_1 ++ (lw_privs_2)
def lw_tbl : List Cond := k2_sels lw_privs ++ tables_1
theorem lw_privs_ok : ∀ q ∈ lw_privs, lw_okq q := by
  show ∀ q ∈ lw_privs_1 ++ (lw_privs_2), lw_okq q
  exact List.forall_mem_append.mpr ⟨lw_r1, lw_r2⟩
end
section
/-! THE FRAME. A world of fixed shape (cells numbered, contents in one memory), the machine's walk over it (xk_X), a method's contract over it (xk_M). -/
abbrev xk_St : Type := (Nat → Nat → Int32) × (Nat → Nat → Int64)
abbrev xk_FK : Type := Option Nat ⊕ Unit
abbrev xk_Sh : Type := (Nat × Nat) ⊕ (Nat × List xk_FK)
abbrev xk_G : Type := (Nat → Nat) × (Nat → ClassId)
def xk_fv (ad : Nat → Nat) (σ : xk_St) (k j : Nat) (f : xk_FK) : Value := match f with
  | .inl none => .int (σ.1 k j)
  | .inl (some r) => .ref (ad r)
  | .inr _ => .long (σ.2 k j)
def xk_fs (ad : Nat → Nat) (σ : xk_St) (k : Nat) : Nat → List xk_FK → List Value
  | _, [] => []
  | j, f :: r => xk_fv ad σ k j f :: xk_fs ad σ k (j + 1) r
def xk_ac (ad : Nat → Nat) (σ : xk_St) (k kd : Nat) : (Nat → Int32) ⊕ (Nat → Int64) ⊕ (Nat → UInt32) ⊕ (Nat → UInt64) ⊕ (Nat → Option Nat) := match kd with
  | 0 => .inl (σ.1 k)
  | 1 => .inl (σ.1 k)
  | b + 2 => .inr (.inr (.inr (.inr (fun u => some (ad (b + u))))))
def xk_cell (g : xk_G) (σ : xk_St) (k : Nat) (sh : xk_Sh) : va_E := match sh with
  | .inl (kd, n) => .inl (g.2 k, n, xk_ac g.1 σ k kd)
  | .inr (ci, fks) => .inr (ci, xk_fs g.1 σ k 0 fks)
def xk_go (g : xk_G) (σ : xk_St) : Nat → List xk_Sh → va_W
  | _, [] => []
  | k, sh :: r => (g.1 k, xk_cell g σ k sh) :: xk_go g σ (k + 1) r
def xk_wl (shp : List xk_Sh) (g : xk_G) (σ : xk_St) : va_W := xk_go g σ 0 shp
theorem xk_fs_at (ad : Nat → Nat) (σ : xk_St) (k : Nat) : ∀ (l : List xk_FK) (j i : Nat), (xk_fs ad σ k j l)[i]? = l[i]?.map (fun f => xk_fv ad σ k (j + i) f)
  | [], j, i => by simp [xk_fs]
  | f :: r, j, 0 => by simp [xk_fs]
  | f :: r, j, i + 1 => by
    rw [xk_fs, List.getElem?_cons_succ, List.getElem?_cons_succ, xk_fs_at ad σ k r (j + 1) i, show j + 1 + i = j + (i + 1) by omega]
theorem xk_go_at (g : xk_G) (σ : xk_St) : ∀ (l : List xk_Sh) (j i : Nat), (xk_go g σ j l)[i]? = l[i]?.map (fun sh => (g.1 (j + i), xk_cell g σ (j + i) sh))
  | [], j, i => by simp [xk_go]
  | f :: r, j, 0 => by simp [xk_go]
  | f :: r, j, i + 1 => by
    rw [xk_go, List.getElem?_cons_succ, List.getElem?_cons_succ, xk_go_at g σ r (j + 1) i, show j + 1 + i = j + (i + 1) by omega]
theorem xk_wl_at {shp : List xk_Sh} {g : xk_G} {σ : xk_St} {k : Nat} {sh : xk_Sh} (h : shp[k]? = some sh) : (xk_wl shp g σ)[k]? = some (g.1 k, xk_cell g σ k sh) := by
  rw [xk_wl, xk_go_at, h]; simp
theorem xk_wl_inv {shp : List xk_Sh} {g : xk_G} {σ : xk_St} {k : Nat} {q : Nat × va_E} (h : (xk_wl shp g σ)[k]? = some q) : ∃ sh, shp[k]? = some sh ∧ q = (g.1 k, xk_cell g σ k sh) := by
  rw [xk_wl, xk_go_at] at h
  cases hs : shp[k]? with
  | none => rw [hs] at h; simp at h
  | some sh => rw [hs] at h; simp at h; exact ⟨sh, rfl, h.symm⟩
theorem xk_cell_cong {g : xk_G} {σ τ : xk_St} {k : Nat} (h1 : τ.1 k = σ.1 k) (h2 : τ.2 k = σ.2 k) (sh : xk_Sh) : xk_cell g τ k sh = xk_cell g σ k sh := by
  have hf : ∀ (l : List xk_FK) (j : Nat), xk_fs g.1 τ k j l = xk_fs g.1 σ k j l := by
    intro l
    induction l with
    | nil => intro j; rfl
    | cons f r ih =>
      intro j
      rw [xk_fs, xk_fs, ih]
      congr 1
      rcases f with (_ | r) | _
      · simp only [xk_fv, h1]
      · rfl
      · simp only [xk_fv, h2]
  rcases sh with ⟨kd, n⟩ | ⟨ci, fks⟩
  · match kd with
    | 0 => simp only [xk_cell, xk_ac, h1]
    | 1 => simp only [xk_cell, xk_ac, h1]
    | b + 2 => rfl
  · simp only [xk_cell, hf]
theorem xk_wl_set {shp : List xk_Sh} {g : xk_G} {σ τ : xk_St} {k : Nat} {sh : xk_Sh} (h : shp[k]? = some sh) (ho : ∀ i, i ≠ k → τ.1 i = σ.1 i ∧ τ.2 i = σ.2 i) : (xk_wl shp g σ).set k (g.1 k, xk_cell g τ k sh) = xk_wl shp g τ := by
  apply List.ext_getElem?
  intro i
  by_cases hi : k = i
  · subst hi
    have hl : k < (xk_wl shp g σ).length := (List.getElem?_eq_some_iff.mp (xk_wl_at (g := g) (σ := σ) h)).1
    rw [List.getElem?_set_self hl, xk_wl_at h]
  · rw [List.getElem?_set_ne hi]
    cases hs : shp[i]? with
    | none =>
      rw [xk_wl, xk_wl, xk_go_at, xk_go_at, hs]; rfl
    | some sh' =>
      rw [xk_wl_at hs, xk_wl_at hs, xk_cell_cong (ho i (Ne.symm hi)).1 (ho i (Ne.symm hi)).2]
def xk_up (σ : xk_St) (k j : Nat) (v : Int32) : xk_St := (fun a b => if a = k ∧ b = j then v else σ.1 a b, σ.2)
def xk_upL (σ : xk_St) (k j : Nat) (v : Int64) : xk_St := (σ.1, fun a b => if a = k ∧ b = j then v else σ.2 a b)
def xk_row (σ : xk_St) (k : Nat) (f : Nat → Int32) : xk_St := (fun a => if a = k then f else σ.1 a, σ.2)
theorem xk_up_ne {σ : xk_St} {k j : Nat} {v : Int32} (i : Nat) (h : i ≠ k) : (xk_up σ k j v).1 i = σ.1 i ∧ (xk_up σ k j v).2 i = σ.2 i := ⟨by funext b; simp [xk_up, h], rfl⟩
theorem xk_upL_ne {σ : xk_St} {k j : Nat} {v : Int64} (i : Nat) (h : i ≠ k) : (xk_upL σ k j v).1 i = σ.1 i ∧ (xk_upL σ k j v).2 i = σ.2 i := ⟨rfl, by funext b; simp [xk_upL, h]⟩
theorem xk_row_ne {σ : xk_St} {k : Nat} {f : Nat → Int32} (i : Nat) (h : i ≠ k) : (xk_row σ k f).1 i = σ.1 i ∧ (xk_row σ k f).2 i = σ.2 i := ⟨by simp [xk_row, h], rfl⟩
theorem xk_fs_put {ad : Nat → Nat} {σ : xk_St} {k j : Nat} {fks : List xk_FK} (v : Int32) (hj : fks[j]? = some (.inl none)) : (xk_fs ad σ k 0 fks).set j (.int v) = xk_fs ad (xk_up σ k j v) k 0 fks := by
  apply List.ext_getElem?
  intro i
  have hl : j < (xk_fs ad σ k 0 fks).length := (List.getElem?_eq_some_iff.mp (show (xk_fs ad σ k 0 fks)[j]? = some _ by rw [xk_fs_at, hj]; rfl)).1
  by_cases hi : j = i
  · subst hi
    rw [List.getElem?_set_self hl, xk_fs_at, hj]
    simp [xk_fv, xk_up]
  · rw [List.getElem?_set_ne hi, xk_fs_at, xk_fs_at]
    cases fks[i]? with
    | none => rfl
    | some f =>
      rcases f with (_ | r) | _
      · simp [xk_fv, xk_up, Ne.symm hi]
      · rfl
      · rfl
theorem xk_fs_putL {ad : Nat → Nat} {σ : xk_St} {k j : Nat} {fks : List xk_FK} (v : Int64) (hj : fks[j]? = some (.inr ())) : (xk_fs ad σ k 0 fks).set j (.long v) = xk_fs ad (xk_upL σ k j v) k 0 fks := by
  apply List.ext_getElem?
  intro i
  have hl : j < (xk_fs ad σ k 0 fks).length := (List.getElem?_eq_some_iff.mp (show (xk_fs ad σ k 0 fks)[j]? = some _ by rw [xk_fs_at, hj]; rfl)).1
  by_cases hi : j = i
  · subst hi
    rw [List.getElem?_set_self hl, xk_fs_at, hj]
    simp [xk_fv, xk_upL]
  · rw [List.getElem?_set_ne hi, xk_fs_at, xk_fs_at]
    cases fks[i]? with
    | none => rfl
    | some f =>
      rcases f with (_ | r) | _
      · rfl
      · rfl
      · simp [xk_fv, xk_upL, Ne.symm hi]
/-- which cells a method may change -/
def xk_A (shp : List xk_Sh) (g : xk_G) (sz : Nat) : Nat → Prop := fun q => (∃ k, k < shp.length ∧ q = g.1 k) ∨ sz ≤ q
def xk_ty (rc : String) : Nat → FieldType
  | 0 => .int
  | 1 => .boolean
  | _ => .object rc
/-- a world, its fixed part: words, nest words, numbers, kinds, shapes, what rows of references hold, addresses -/
abbrev xk_w : Type := List Cond × List Cond × va_G × List vw_C × List xk_Sh × String × xk_G
abbrev xk_wT (w : xk_w) : List Cond := w.1
abbrev xk_wN (w : xk_w) : List Cond := w.2.1
abbrev xk_wD (w : xk_w) : va_G := w.2.2.1
abbrev xk_wC (w : xk_w) : List vw_C := w.2.2.2.1
abbrev xk_wS (w : xk_w) : List xk_Sh := w.2.2.2.2.1
abbrev xk_wR (w : xk_w) : String := w.2.2.2.2.2.1
abbrev xk_wG (w : xk_w) : xk_G := w.2.2.2.2.2.2
abbrev xk_wA (w : xk_w) (k : Nat) : Nat := (xk_wG w).1 k
def xk_nw : Cond → Bool
  | .fieldLinkNest .. => true
  | .methodLinkNest .. => true
  | _ => false
theorem xk_nw_tab {v : Cond} (h : xk_nw v = true) : v.onTables = true := by
  cases v <;> first | rfl | (simp [xk_nw] at h)
theorem xk_nw_warm {v : Cond} (h : xk_nw v = true) {s U : State} (hW : s.WarmedH U.vm) (hZ : va_Nw v s) : va_Nw v U := by
  cases v <;> first | exact va_Nw.warmF hW hZ | exact va_Nw.warmM hW hZ | (simp [xk_nw] at h)
def xk_ws (w : xk_w) (σ : xk_St) : va_W := xk_wl (xk_wS w) (xk_wG w) σ
def xk_KK (w : xk_w) (U : State) : Prop := va_K (xk_wD w) (xk_wC w) [] U ∧ (∀ (k kd n : Nat), (xk_wS w)[k]? = some (.inl (kd, n)) → ArrOfT U ((xk_wG w).2 k) (xk_ty (xk_wR w) kd) ∧ va_RA U ((xk_wG w).2 k) (xk_ty (xk_wR w) kd)) ∧ ∀ v ∈ xk_wN w, xk_nw v = true ∧ va_Nw v U
theorem xk_KK.moved {w : xk_w} {s U : State} (hW : s.WarmedH U.vm) (h : xk_KK w s) : xk_KK w U := ⟨va_K.moved hW.alike h.1, fun k kd n hk => ⟨arrOfT_moved hW.alike (h.2.1 k kd n hk).1, (h.2.1 k kd n hk).2.moved hW.alike⟩, fun v hv => ⟨(h.2.2 v hv).1, xk_nw_warm (h.2.2 v hv).1 hW (h.2.2 v hv).2⟩⟩
theorem xk_KK.same {w : xk_w} {u U : State} (hvm : u.vm = U.vm) (h : xk_KK w u) : xk_KK w U := by
  have ha : u.vm.Alike U.vm := by rw [← hvm]; exact Vm.Alike.refl u.vm
  exact ⟨va_K.moved ha h.1, fun k kd n hk => ⟨arrOfT_moved ha (h.2.1 k kd n hk).1, (h.2.1 k kd n hk).2.moved ha⟩, fun v hv => ⟨(h.2.2 v hv).1, va_Nw.same (xk_nw_tab (h.2.2 v hv).1) hvm (h.2.2 v hv).2⟩⟩
theorem xk_KK.k {w : xk_w} {U : State} (h : xk_KK w U) {k kd n : Nat} (hk : (xk_wS w)[k]? = some (.inl (kd, n))) : va_K (xk_wD w) (xk_wC w) [((xk_wG w).2 k, xk_ty (xk_wR w) kd)] U := ⟨h.1.1, fun j q hq => by
  match j, hq with
  | 0, hq => simp at hq; subst hq; exact h.2.1 k kd n hk⟩
theorem xk_KK.n {w : xk_w} {U : State} (h : xk_KK w U) {v : Cond} (hv : v ∈ xk_wN w) {A : Array Value} : v.before A U = true := va_Nw.use (xk_nw_tab (h.2.2 v hv).1) (h.2.2 v hv).2
/-- the machine's fixed part -/
abbrev xk_K : Type := Program × Launch × Env × Room × State × MethodId × Array Value × List Frame × Method × Code × (Nat → Prop) × Nat × Nat × (State → Prop)
abbrev xk_V (S : Type) : Type := va_G × List vw_C × (S → va_W)
abbrev xk_vw (w : xk_w) : xk_V xk_St := (xk_wD w, (xk_wC w), xk_ws w)
def xk_X {S : Type} (K : xk_K) (V : xk_V S) (σ : S) (pc : Nat) (lv : List (Nat × Value)) (st : List Value) : Prop := match K with
  | (p, l, e, R, s, m, args, below, meth, c, A, cells, slots, Q) => ∀ (H : Heap) (locs : List Loc) (ls : Array Slot), va_P V.1 V.2.1 (V.2.2 σ) H → va_D A (V.2.2 σ) → va_S A s.heap H locs → lv_has ls c.maxLocals lv → W p l e R s m args below meth c H locs cells slots Q (F0 m pc ls st)
/-- the code that runs -/
def xk_E (K : xk_K) (cc : ByteArray) (nL : Nat) : Prop := match K with
  | (p, _, _, _, _, _, _, _, _, c, _, _, _, _) => p.tables.exec = Jvm.exec ∧ c.code = cc ∧ c.maxLocals = nL
def xk_Qc (w : xk_w) (P : Option Value → xk_St → Prop) (A : Nat → Prop) : Array Value → State → Outcome → State → Prop := fun _ st oc t =>
  (∃ (v : Option Value) (τ : xk_St), oc = .returned v ∧ P v τ ∧ va_P (xk_wD w) (xk_wC w) (xk_ws w τ) t.heap) ∧ va_F A st t
/-- all that a method's walk stands on -/
def xk_H (K : xk_K) (w : xk_w) (cc : ByteArray) (nL : Nat) (own : String) (d : Nat) (ret : Option FieldType) (P : Option Value → xk_St → Prop) : Prop := match K with
  | (p, _, _, R, s, m, args, below, meth, c, A, cells, slots, Q) => CallFix p m c cc nL s args (xk_wT w) own ∧ xk_KK w s ∧ (d ≤ R.frames ∧ 40 * d ≤ R.locals) ∧ (meth.sig.returnType = ret ∧ meth.locks = false) ∧ (cells = 0 ∧ slots = 0) ∧ A = xk_A (xk_wS w) (xk_wG w) s.heap.size ∧ Q = MQ below (xk_Qc w P A) args s 0 0 A
def xk_rm (d : Nat) : Room := { frames := d, cells := 0, slots := 0, locals := 40 * d }
abbrev xk_Y : Type := MethodName × ByteArray × Nat × Option FieldType
def xk_M (w : xk_w) (d : Nat) (y : xk_Y) (args : List Value) (σ : xk_St) (P : Option Value → xk_St → Prop) : Prop := ∀ (l : Launch) (sz : Nat),
  Met l y.1 (.code y.1 y.2.1 y.2.2.1 y.2.2.2 :: xk_wT w) (xk_rm d) (va_Pc args (fun U => U.heap.size = sz ∧ va_P (xk_wD w) (xk_wC w) (xk_ws w σ) U.heap ∧ xk_KK w U ∧ va_D (fun _ => True) (xk_ws w σ))) (xk_Qc w P (xk_A (xk_wS w) (xk_wG w) sz)) 0 0 (xk_A (xk_wS w) (xk_wG w) sz)
theorem xk_D_of {w : xk_w} {σ τ : xk_St} {A B : Nat → Prop} (h : va_D A (xk_ws w σ)) (hB : ∀ k, k < (xk_wS w).length → B (xk_wA w k)) : va_D B (xk_ws w τ) := by
  refine ⟨fun i j p q hi hj hpq => ?_, fun k q hk => ?_⟩
  · obtain ⟨si, h1, rfl⟩ := xk_wl_inv hi
    obtain ⟨sj, h2, rfl⟩ := xk_wl_inv hj
    exact h.1 i j _ _ (xk_wl_at h1) (xk_wl_at h2) hpq
  · obtain ⟨sk, h1, rfl⟩ := xk_wl_inv hk
    exact hB k (List.getElem?_eq_some_iff.mp h1).1
theorem xk_D_in {w : xk_w} {σ : xk_St} {A : Nat → Prop} (h : va_D A (xk_ws w σ)) {k : Nat} (hk : k < (xk_wS w).length) : A (xk_wA w k) :=
  h.2 k _ (xk_wl_at (List.getElem?_eq_getElem hk))
theorem xk_enter {w : xk_w} {d : Nat} {y : xk_Y} {args : List Value} {σ : xk_St} {P : Option Value → xk_St → Prop} (hy : plainName y.1.cls = true) (hlen : (lg_sl args).length ≤ y.2.2.1)
    (body : ∀ K : xk_K, xk_E K y.2.1 y.2.2.1 → xk_H K w y.2.1 y.2.2.1 y.1.cls d y.2.2.2 P → xk_X K (xk_vw w) σ 0 (lv_args 0 args) []) : xk_M w d y args σ P := by
  intro l sz
  refine Met.ofW (cc := y.2.1) (maxL := y.2.2.1) (ret := y.2.2.2) hy rfl ?_
  intro p e s m vargs below meth c s₁ B hml hv
  obtain ⟨rfl, hsz, hP, hK, hD0⟩ := hv
  have hts := atoms_spec (ws := .code y.1 y.2.1 y.2.2.1 y.2.2.2 :: xk_wT w) B.pre
  have hown : s.vm.findClass y.1.cls = some m.cls := findClass_of_methodNamed B.named
  subst hsz
  have hD : va_D (xk_A (xk_wS w) (xk_wG w) s.heap.size) (xk_ws w σ) := xk_D_of hD0 (fun k hk => Or.inl ⟨k, hk, rfl⟩)
  have hl := lv_entry args (n := y.2.2.1) hlen
  rw [lg_entry_eq]
  have X := body (p, l, e, (headSpec (.code y.1 y.2.1 y.2.2.1 y.2.2.2 :: xk_wT w) (xk_rm d)).room, s, m, args.toArray, below, meth, c, xk_A (xk_wS w) (xk_wG w) s.heap.size, 0, 0, MQ below (xk_Qc w P (xk_A (xk_wS w) (xk_wG w) s.heap.size)) args.toArray s 0 0 (xk_A (xk_wS w) (xk_wG w) s.heap.size))
    ⟨B.exec, B.bytes, hml⟩ ⟨⟨B.exec, B.bytes, hml, hown, fun w' h => hts w' (List.mem_cons_of_mem _ h)⟩, hK, ⟨Nat.le_refl _, Nat.le_refl _⟩, ⟨B.returns, B.notSynchronized⟩, ⟨rfl, rfl⟩, rfl, rfl⟩
  exact X s.heap [] _ hP hD va_S.rf (hml.symm ▸ hl)
/-- an instruction and the next one's place -/
def xk_d (cc : ByteArray) (pc : Nat) (i : Instr) (n pc' : Nat) : Prop := decode cc pc = .ok (i, n) ∧ pc + n = pc'
/-- a branch: its two goals -/
def xk_b (cc : ByteArray) (pc : Nat) (i : Instr) (pc' : Nat) (off : Int) (tgt : Nat) : Prop := decode cc pc = .ok (i, 3) ∧ pc + 3 = pc' ∧ (pc : Int) + off = (tgt : Int)
section XR
variable {S : Type} {K : xk_K} {V : xk_V S} {σ : S} {cc : ByteArray} {nL pc pc' tgt : Nat} {off : Int} {lv lv' : List (Nat × Value)} {st : List Value}
theorem x_lv (ks : List Nat) (hl : lv_pick lv ks = lv') (k : xk_X K V σ pc lv' st) : xk_X K V σ pc lv st := by
  obtain ⟨p, l, e, R, s, m, args, below, meth, c, A, cells, slots, Q⟩ := K
  intro H locs ls hP hD hS h
  exact k H locs ls hP hD hS (lv_sub h ks hl)
theorem x_iadd {x y : Int32} (hc : xk_E K cc nL) (hd : xk_d cc pc .iadd 1 pc')  (k : xk_X K V σ pc' lv (.int (x + y) :: st)) : xk_X K V σ pc lv (.int y :: .int x :: st) := by
  obtain ⟨p, l, e, R, s, m, args, below, meth, c, A, cells, slots, Q⟩ := K
  obtain ⟨hd, rfl⟩ := hd
  intro H locs ls hP hD hS h
  exact lv_iadd hc.1 hc.2.1 hd  (k H locs ls hP hD hS h)
theorem x_isub {x y : Int32} (hc : xk_E K cc nL) (hd : xk_d cc pc .isub 1 pc')  (k : xk_X K V σ pc' lv (.int (x - y) :: st)) : xk_X K V σ pc lv (.int y :: .int x :: st) := by
  obtain ⟨p, l, e, R, s, m, args, below, meth, c, A, cells, slots, Q⟩ := K
  obtain ⟨hd, rfl⟩ := hd
  intro H locs ls hP hD hS h
  exact lv_isub hc.1 hc.2.1 hd  (k H locs ls hP hD hS h)
theorem x_imul {x y : Int32} (hc : xk_E K cc nL) (hd : xk_d cc pc .imul 1 pc')  (k : xk_X K V σ pc' lv (.int (x * y) :: st)) : xk_X K V σ pc lv (.int y :: .int x :: st) := by
  obtain ⟨p, l, e, R, s, m, args, below, meth, c, A, cells, slots, Q⟩ := K
  obtain ⟨hd, rfl⟩ := hd
  intro H locs ls hP hD hS h
  exact lv_imul hc.1 hc.2.1 hd  (k H locs ls hP hD hS h)
theorem x_iand {x y : Int32} (hc : xk_E K cc nL) (hd : xk_d cc pc .iand 1 pc')  (k : xk_X K V σ pc' lv (.int (x &&& y) :: st)) : xk_X K V σ pc lv (.int y :: .int x :: st) := by
  obtain ⟨p, l, e, R, s, m, args, below, meth, c, A, cells, slots, Q⟩ := K
  obtain ⟨hd, rfl⟩ := hd
  intro H locs ls hP hD hS h
  exact lv_iand hc.1 hc.2.1 hd  (k H locs ls hP hD hS h)
theorem x_ior {x y : Int32} (hc : xk_E K cc nL) (hd : xk_d cc pc .ior 1 pc')  (k : xk_X K V σ pc' lv (.int (x ||| y) :: st)) : xk_X K V σ pc lv (.int y :: .int x :: st) := by
  obtain ⟨p, l, e, R, s, m, args, below, meth, c, A, cells, slots, Q⟩ := K
  obtain ⟨hd, rfl⟩ := hd
  intro H locs ls hP hD hS h
  exact lv_ior hc.1 hc.2.1 hd  (k H locs ls hP hD hS h)
theorem x_ixor {x y : Int32} (hc : xk_E K cc nL) (hd : xk_d cc pc .ixor 1 pc')  (k : xk_X K V σ pc' lv (.int (x ^^^ y) :: st)) : xk_X K V σ pc lv (.int y :: .int x :: st) := by
  obtain ⟨p, l, e, R, s, m, args, below, meth, c, A, cells, slots, Q⟩ := K
  obtain ⟨hd, rfl⟩ := hd
  intro H locs ls hP hD hS h
  exact lv_ixor hc.1 hc.2.1 hd  (k H locs ls hP hD hS h)
theorem x_idiv {x y : Int32} (hc : xk_E K cc nL) (hd : xk_d cc pc .idiv 1 pc') (hne : ¬ y = 0) (k : xk_X K V σ pc' lv (.int (x / y) :: st)) : xk_X K V σ pc lv (.int y :: .int x :: st) := by
  obtain ⟨p, l, e, R, s, m, args, below, meth, c, A, cells, slots, Q⟩ := K
  obtain ⟨hd, rfl⟩ := hd
  intro H locs ls hP hD hS h
  exact lv_idiv hc.1 hc.2.1 hd hne (k H locs ls hP hD hS h)
theorem x_irem {x y : Int32} (hc : xk_E K cc nL) (hd : xk_d cc pc .irem 1 pc') (hne : ¬ y = 0) (k : xk_X K V σ pc' lv (.int (x - x / y * y) :: st)) : xk_X K V σ pc lv (.int y :: .int x :: st) := by
  obtain ⟨p, l, e, R, s, m, args, below, meth, c, A, cells, slots, Q⟩ := K
  obtain ⟨hd, rfl⟩ := hd
  intro H locs ls hP hD hS h
  exact lv_irem hc.1 hc.2.1 hd hne (k H locs ls hP hD hS h)
theorem x_ineg {x : Int32} (hc : xk_E K cc nL) (hd : xk_d cc pc .ineg 1 pc')  (k : xk_X K V σ pc' lv (.int (-x) :: st)) : xk_X K V σ pc lv (.int x :: st) := by
  obtain ⟨p, l, e, R, s, m, args, below, meth, c, A, cells, slots, Q⟩ := K
  obtain ⟨hd, rfl⟩ := hd
  intro H locs ls hP hD hS h
  exact lv_ineg hc.1 hc.2.1 hd  (k H locs ls hP hD hS h)
theorem x_land {x y : Int64} (hc : xk_E K cc nL) (hd : xk_d cc pc .land 1 pc')  (k : xk_X K V σ pc' lv (.long (x &&& y) :: st)) : xk_X K V σ pc lv (.long y :: .long x :: st) := by
  obtain ⟨p, l, e, R, s, m, args, below, meth, c, A, cells, slots, Q⟩ := K
  obtain ⟨hd, rfl⟩ := hd
  intro H locs ls hP hD hS h
  exact lv_land hc.1 hc.2.1 hd  (k H locs ls hP hD hS h)
theorem x_lor {x y : Int64} (hc : xk_E K cc nL) (hd : xk_d cc pc .lor 1 pc')  (k : xk_X K V σ pc' lv (.long (x ||| y) :: st)) : xk_X K V σ pc lv (.long y :: .long x :: st) := by
  obtain ⟨p, l, e, R, s, m, args, below, meth, c, A, cells, slots, Q⟩ := K
  obtain ⟨hd, rfl⟩ := hd
  intro H locs ls hP hD hS h
  exact lv_lor hc.1 hc.2.1 hd  (k H locs ls hP hD hS h)
theorem x_lxor {x y : Int64} (hc : xk_E K cc nL) (hd : xk_d cc pc .lxor 1 pc')  (k : xk_X K V σ pc' lv (.long (x ^^^ y) :: st)) : xk_X K V σ pc lv (.long y :: .long x :: st) := by
  obtain ⟨p, l, e, R, s, m, args, below, meth, c, A, cells, slots, Q⟩ := K
  obtain ⟨hd, rfl⟩ := hd
  intro H locs ls hP hD hS h
  exact lv_lxor hc.1 hc.2.1 hd  (k H locs ls hP hD hS h)
theorem x_lshl {x : Int64} {y : Int32} (hc : xk_E K cc nL) (hd : xk_d cc pc .lshl 1 pc')  (k : xk_X K V σ pc' lv (.long (x <<< (y.toInt64 &&& 63)) :: st)) : xk_X K V σ pc lv (.int y :: .long x :: st) := by
  obtain ⟨p, l, e, R, s, m, args, below, meth, c, A, cells, slots, Q⟩ := K
  obtain ⟨hd, rfl⟩ := hd
  intro H locs ls hP hD hS h
  exact lv_lshl hc.1 hc.2.1 hd rfl (k H locs ls hP hD hS h)
theorem x_lcmp {x y : Int64} (hc : xk_E K cc nL) (hd : xk_d cc pc .lcmp 1 pc')  (k : xk_X K V σ pc' lv (.int (lg_cmp x y) :: st)) : xk_X K V σ pc lv (.long y :: .long x :: st) := by
  obtain ⟨p, l, e, R, s, m, args, below, meth, c, A, cells, slots, Q⟩ := K
  obtain ⟨hd, rfl⟩ := hd
  intro H locs ls hP hD hS h
  exact W.lcmp hc.1 hc.2.1 hd  (k H locs ls hP hD hS h)
theorem x_dup {v : Value} (hc : xk_E K cc nL) (hd : xk_d cc pc .dup 1 pc') (hv : v.category = 1) (k : xk_X K V σ pc' lv (v :: v :: st)) : xk_X K V σ pc lv (v :: st) := by
  obtain ⟨p, l, e, R, s, m, args, below, meth, c, A, cells, slots, Q⟩ := K
  obtain ⟨hd, rfl⟩ := hd
  intro H locs ls hP hD hS h
  exact lv_dup hc.1 hc.2.1 hd hv (k H locs ls hP hD hS h)
theorem x_pop {v : Value} (hc : xk_E K cc nL) (hd : xk_d cc pc .pop 1 pc') (hv : v.category = 1) (k : xk_X K V σ pc' lv st) : xk_X K V σ pc lv (v :: st) := by
  obtain ⟨p, l, e, R, s, m, args, below, meth, c, A, cells, slots, Q⟩ := K
  obtain ⟨hd, rfl⟩ := hd
  intro H locs ls hP hD hS h
  exact lv_pop hc.1 hc.2.1 hd hv (k H locs ls hP hD hS h)
theorem x_dup2 {v u : Value} (hc : xk_E K cc nL) (hd : xk_d cc pc .dup2 1 pc') (hv : v.category = 1) (hu : u.category = 1) (k : xk_X K V σ pc' lv (v :: u :: v :: u :: st)) : xk_X K V σ pc lv (v :: u :: st) := by
  obtain ⟨p, l, e, R, s, m, args, below, meth, c, A, cells, slots, Q⟩ := K
  obtain ⟨hd, rfl⟩ := hd
  intro H locs ls hP hD hS h
  exact lv_dup2_11 hc.1 hc.2.1 hd hv hu (k H locs ls hP hD hS h)
theorem x_dup_x1 {v u : Value} (hc : xk_E K cc nL) (hd : xk_d cc pc .dup_x1 1 pc') (hv : v.category = 1) (hu : u.category = 1) (k : xk_X K V σ pc' lv (v :: u :: v :: st)) : xk_X K V σ pc lv (v :: u :: st) := by
  obtain ⟨p, l, e, R, s, m, args, below, meth, c, A, cells, slots, Q⟩ := K
  obtain ⟨hd, rfl⟩ := hd
  intro H locs ls hP hD hS h
  exact lv_dup_x1 hc.1 hc.2.1 hd hv hu (k H locs ls hP hD hS h)
theorem x_dup_x2 {v u t : Value} (hc : xk_E K cc nL) (hd : xk_d cc pc .dup_x2 1 pc') (hv : v.category = 1) (hu : u.category = 1) (ht : t.category = 1) (k : xk_X K V σ pc' lv (v :: u :: t :: v :: st)) : xk_X K V σ pc lv (v :: u :: t :: st) := by
  obtain ⟨p, l, e, R, s, m, args, below, meth, c, A, cells, slots, Q⟩ := K
  obtain ⟨hd, rfl⟩ := hd
  intro H locs ls hP hD hS h
  exact lv_dup_x2 hc.1 hc.2.1 hd hv hu ht (k H locs ls hP hD hS h)
theorem x_iconst {n : Int} (v : Int32) (hc : xk_E K cc nL) (hd : xk_d cc pc (.iconst n) 1 pc') (hv : Int32.ofInt n = v) (k : xk_X K V σ pc' lv (.int v :: st)) : xk_X K V σ pc lv st := by
  obtain ⟨p, l, e, R, s, m, args, below, meth, c, A, cells, slots, Q⟩ := K
  obtain ⟨hd, rfl⟩ := hd
  intro H locs ls hP hD hS h
  exact lv_iconst hc.1 hc.2.1 hd hv (k H locs ls hP hD hS h)
theorem x_bipush {n : Int} (v : Int32) (hc : xk_E K cc nL) (hd : xk_d cc pc (.bipush n) 2 pc') (hv : (Int8.ofInt n).toInt32 = v) (k : xk_X K V σ pc' lv (.int v :: st)) : xk_X K V σ pc lv st := by
  obtain ⟨p, l, e, R, s, m, args, below, meth, c, A, cells, slots, Q⟩ := K
  obtain ⟨hd, rfl⟩ := hd
  intro H locs ls hP hD hS h
  exact lv_bipush hc.1 hc.2.1 hd hv (k H locs ls hP hD hS h)
theorem x_sipush {n : Int} (v : Int32) (hc : xk_E K cc nL) (hd : xk_d cc pc (.sipush n) 3 pc') (hv : (Int16.ofInt n).toInt32 = v) (k : xk_X K V σ pc' lv (.int v :: st)) : xk_X K V σ pc lv st := by
  obtain ⟨p, l, e, R, s, m, args, below, meth, c, A, cells, slots, Q⟩ := K
  obtain ⟨hd, rfl⟩ := hd
  intro H locs ls hP hD hS h
  exact lv_sipush hc.1 hc.2.1 hd hv (k H locs ls hP hD hS h)
theorem x_lconst {n : Fin 2} (v : Int64) (hc : xk_E K cc nL) (hd : xk_d cc pc (.lconst n) 1 pc') (hv : Int64.ofNat (n : Nat) = v) (k : xk_X K V σ pc' lv (.long v :: st)) : xk_X K V σ pc lv st := by
  obtain ⟨p, l, e, R, s, m, args, below, meth, c, A, cells, slots, Q⟩ := K
  obtain ⟨hd, rfl⟩ := hd
  intro H locs ls hP hD hS h
  exact lv_lconst hc.1 hc.2.1 hd hv (k H locs ls hP hD hS h)
theorem x_iload_n {n : Fin 4} {x : Int32} (hc : xk_E K cc nL) (hd : xk_d cc pc (.iload_n n) 1 pc') (q : Nat) (hq : lv[q]? = some ((n : Nat), .int x)) (k : xk_X K V σ pc' lv (.int x :: st)) : xk_X K V σ pc lv st := by
  obtain ⟨p, l, e, R, s, m, args, below, meth, c, A, cells, slots, Q⟩ := K
  obtain ⟨hd, rfl⟩ := hd
  intro H locs ls hP hD hS h
  exact lv_iload_n hc.1 hc.2.1 hd rfl (lv_at h q hq) (k H locs ls hP hD hS h)
theorem x_iload {i : Nat} {x : Int32} (hc : xk_E K cc nL) (hd : xk_d cc pc (.iload i) 2 pc') (q : Nat) (hq : lv[q]? = some (i, .int x)) (k : xk_X K V σ pc' lv (.int x :: st)) : xk_X K V σ pc lv st := by
  obtain ⟨p, l, e, R, s, m, args, below, meth, c, A, cells, slots, Q⟩ := K
  obtain ⟨hd, rfl⟩ := hd
  intro H locs ls hP hD hS h
  exact lv_iload hc.1 hc.2.1 hd (lv_at h q hq) (k H locs ls hP hD hS h)
theorem x_istore_n {n : Fin 4} {i : Nat} {x : Int32} (lv' : List (Nat × Value)) (hc : xk_E K cc nL) (hd : xk_d cc pc (.istore_n n) 1 pc') (hi : (n : Nat) = i) (hn : i < nL) (hl : (i, Value.int x) :: lv.filter (fun q => !(q.1 == i) && !(q.1 + 1 == i && q.2.category == 2)) = lv') (k : xk_X K V σ pc' lv' st) : xk_X K V σ pc lv (.int x :: st) := by
  obtain ⟨p, l, e, R, s, m, args, below, meth, c, A, cells, slots, Q⟩ := K
  obtain ⟨hd, rfl⟩ := hd
  intro H locs ls hP hD hS h
  exact lv_istore_n hc.1 hc.2.1 hd hi h (hc.2.2.symm ▸ hn) hl (fun ls' h' => k H locs ls' hP hD hS h')
theorem x_istore {i : Nat} {x : Int32} (lv' : List (Nat × Value)) (hc : xk_E K cc nL) (hd : xk_d cc pc (.istore i) 2 pc') (hn : i < nL) (hl : (i, Value.int x) :: lv.filter (fun q => !(q.1 == i) && !(q.1 + 1 == i && q.2.category == 2)) = lv') (k : xk_X K V σ pc' lv' st) : xk_X K V σ pc lv (.int x :: st) := by
  obtain ⟨p, l, e, R, s, m, args, below, meth, c, A, cells, slots, Q⟩ := K
  obtain ⟨hd, rfl⟩ := hd
  intro H locs ls hP hD hS h
  exact lv_istore hc.1 hc.2.1 hd h (hc.2.2.symm ▸ hn) hl (fun ls' h' => k H locs ls' hP hD hS h')
theorem x_lload_n {n : Fin 4} {x : Int64} (hc : xk_E K cc nL) (hd : xk_d cc pc (.lload_n n) 1 pc') (q : Nat) (hq : lv[q]? = some ((n : Nat), .long x)) (k : xk_X K V σ pc' lv (.long x :: st)) : xk_X K V σ pc lv st := by
  obtain ⟨p, l, e, R, s, m, args, below, meth, c, A, cells, slots, Q⟩ := K
  obtain ⟨hd, rfl⟩ := hd
  intro H locs ls hP hD hS h
  exact lv_lload_n hc.1 hc.2.1 hd rfl (lv_at h q hq) (k H locs ls hP hD hS h)
theorem x_lload {i : Nat} {x : Int64} (hc : xk_E K cc nL) (hd : xk_d cc pc (.lload i) 2 pc') (q : Nat) (hq : lv[q]? = some (i, .long x)) (k : xk_X K V σ pc' lv (.long x :: st)) : xk_X K V σ pc lv st := by
  obtain ⟨p, l, e, R, s, m, args, below, meth, c, A, cells, slots, Q⟩ := K
  obtain ⟨hd, rfl⟩ := hd
  intro H locs ls hP hD hS h
  exact lv_lload hc.1 hc.2.1 hd (lv_at h q hq) (k H locs ls hP hD hS h)
theorem x_lstore_n {n : Fin 4} {i : Nat} {x : Int64} (lv' : List (Nat × Value)) (hc : xk_E K cc nL) (hd : xk_d cc pc (.lstore_n n) 1 pc') (hi : (n : Nat) = i) (hn : i + 1 < nL) (hl : (i, Value.long x) :: lv.filter (fun q => !(q.1 == i) && (!(q.1 == i + 1) && !(q.1 + 1 == i && q.2.category == 2))) = lv') (k : xk_X K V σ pc' lv' st) : xk_X K V σ pc lv (.long x :: st) := by
  obtain ⟨p, l, e, R, s, m, args, below, meth, c, A, cells, slots, Q⟩ := K
  obtain ⟨hd, rfl⟩ := hd
  intro H locs ls hP hD hS h
  exact lv_lstore_n hc.1 hc.2.1 hd hi h (hc.2.2.symm ▸ hn) hl (fun ls' h' => k H locs ls' hP hD hS h')
theorem x_lstore {i : Nat} {x : Int64} (lv' : List (Nat × Value)) (hc : xk_E K cc nL) (hd : xk_d cc pc (.lstore i) 2 pc') (hn : i + 1 < nL) (hl : (i, Value.long x) :: lv.filter (fun q => !(q.1 == i) && (!(q.1 == i + 1) && !(q.1 + 1 == i && q.2.category == 2))) = lv') (k : xk_X K V σ pc' lv' st) : xk_X K V σ pc lv (.long x :: st) := by
  obtain ⟨p, l, e, R, s, m, args, below, meth, c, A, cells, slots, Q⟩ := K
  obtain ⟨hd, rfl⟩ := hd
  intro H locs ls hP hD hS h
  exact lv_lstore hc.1 hc.2.1 hd h (hc.2.2.symm ▸ hn) hl (fun ls' h' => k H locs ls' hP hD hS h')
theorem x_aload_n {n : Fin 4} {x : Nat} (hc : xk_E K cc nL) (hd : xk_d cc pc (.aload_n n) 1 pc') (q : Nat) (hq : lv[q]? = some ((n : Nat), .ref x)) (k : xk_X K V σ pc' lv (.ref x :: st)) : xk_X K V σ pc lv st := by
  obtain ⟨p, l, e, R, s, m, args, below, meth, c, A, cells, slots, Q⟩ := K
  obtain ⟨hd, rfl⟩ := hd
  intro H locs ls hP hD hS h
  exact lv_aload_n hc.1 hc.2.1 hd rfl (lv_at h q hq) (k H locs ls hP hD hS h)
theorem x_aload {i : Nat} {x : Nat} (hc : xk_E K cc nL) (hd : xk_d cc pc (.aload i) 2 pc') (q : Nat) (hq : lv[q]? = some (i, .ref x)) (k : xk_X K V σ pc' lv (.ref x :: st)) : xk_X K V σ pc lv st := by
  obtain ⟨p, l, e, R, s, m, args, below, meth, c, A, cells, slots, Q⟩ := K
  obtain ⟨hd, rfl⟩ := hd
  intro H locs ls hP hD hS h
  exact lv_aload hc.1 hc.2.1 hd (lv_at h q hq) (k H locs ls hP hD hS h)
theorem x_astore_n {n : Fin 4} {i : Nat} {x : Nat} (lv' : List (Nat × Value)) (hc : xk_E K cc nL) (hd : xk_d cc pc (.astore_n n) 1 pc') (hi : (n : Nat) = i) (hn : i < nL) (hl : (i, Value.ref x) :: lv.filter (fun q => !(q.1 == i) && !(q.1 + 1 == i && q.2.category == 2)) = lv') (k : xk_X K V σ pc' lv' st) : xk_X K V σ pc lv (.ref x :: st) := by
  obtain ⟨p, l, e, R, s, m, args, below, meth, c, A, cells, slots, Q⟩ := K
  obtain ⟨hd, rfl⟩ := hd
  intro H locs ls hP hD hS h
  exact lv_astore_n hc.1 hc.2.1 hd hi h (hc.2.2.symm ▸ hn) hl (fun ls' h' => k H locs ls' hP hD hS h')
theorem x_astore {i : Nat} {x : Nat} (lv' : List (Nat × Value)) (hc : xk_E K cc nL) (hd : xk_d cc pc (.astore i) 2 pc') (hn : i < nL) (hl : (i, Value.ref x) :: lv.filter (fun q => !(q.1 == i) && !(q.1 + 1 == i && q.2.category == 2)) = lv') (k : xk_X K V σ pc' lv' st) : xk_X K V σ pc lv (.ref x :: st) := by
  obtain ⟨p, l, e, R, s, m, args, below, meth, c, A, cells, slots, Q⟩ := K
  obtain ⟨hd, rfl⟩ := hd
  intro H locs ls hP hD hS h
  exact lv_astore hc.1 hc.2.1 hd h (hc.2.2.symm ▸ hn) hl (fun ls' h' => k H locs ls' hP hD hS h')
theorem x_iinc {i : Nat} {n : Int} {x : Int32} (q : Nat) (v : Int32) (lv' : List (Nat × Value)) (hc : xk_E K cc nL) (hd : xk_d cc pc (.iinc i n) 3 pc') (hq : lv[q]? = some (i, .int x)) (hv : x + Int32.ofInt n = v) (hn : i < nL) (hl : (i, Value.int v) :: lv.filter (fun q => !(q.1 == i) && !(q.1 + 1 == i && q.2.category == 2)) = lv') (k : xk_X K V σ pc' lv' st) : xk_X K V σ pc lv st := by
  obtain ⟨p, l, e, R, s, m, args, below, meth, c, A, cells, slots, Q⟩ := K
  obtain ⟨hd, rfl⟩ := hd
  intro H locs ls hP hD hS h
  exact lv_iinc hc.1 hc.2.1 hd h hq hv (hc.2.2.symm ▸ hn) hl (fun ls' h' => k H locs ls' hP hD hS h')
theorem x_if_eq {x : Int32} (hc : xk_E K cc nL) (hd : xk_b cc pc (.ifCond .eq off) pc' off tgt) (kt : x = 0 → xk_X K V σ tgt lv st) (kf : ¬ x = 0 → xk_X K V σ pc' lv st) : xk_X K V σ pc lv (.int x :: st) := by
  obtain ⟨p, l, e, R, s, m, args, below, meth, c, A, cells, slots, Q⟩ := K
  obtain ⟨hd, rfl, ht⟩ := hd
  intro H locs ls hP hD hS h
  exact lv_if_eq hc.1 hc.2.1 hd ht (fun q => kt q H locs ls hP hD hS h) (fun q => kf q H locs ls hP hD hS h)
theorem x_if_ne {x : Int32} (hc : xk_E K cc nL) (hd : xk_b cc pc (.ifCond .ne off) pc' off tgt) (kt : ¬ x = 0 → xk_X K V σ tgt lv st) (kf : x = 0 → xk_X K V σ pc' lv st) : xk_X K V σ pc lv (.int x :: st) := by
  obtain ⟨p, l, e, R, s, m, args, below, meth, c, A, cells, slots, Q⟩ := K
  obtain ⟨hd, rfl, ht⟩ := hd
  intro H locs ls hP hD hS h
  exact lv_if_ne hc.1 hc.2.1 hd ht (fun q => kt q H locs ls hP hD hS h) (fun q => kf q H locs ls hP hD hS h)
theorem x_if_lt {x : Int32} (hc : xk_E K cc nL) (hd : xk_b cc pc (.ifCond .lt off) pc' off tgt) (kt : x < 0 → xk_X K V σ tgt lv st) (kf : ¬ x < 0 → xk_X K V σ pc' lv st) : xk_X K V σ pc lv (.int x :: st) := by
  obtain ⟨p, l, e, R, s, m, args, below, meth, c, A, cells, slots, Q⟩ := K
  obtain ⟨hd, rfl, ht⟩ := hd
  intro H locs ls hP hD hS h
  exact lv_if_lt hc.1 hc.2.1 hd ht (fun q => kt q H locs ls hP hD hS h) (fun q => kf q H locs ls hP hD hS h)
theorem x_if_ge {x : Int32} (hc : xk_E K cc nL) (hd : xk_b cc pc (.ifCond .ge off) pc' off tgt) (kt : 0 ≤ x → xk_X K V σ tgt lv st) (kf : ¬ 0 ≤ x → xk_X K V σ pc' lv st) : xk_X K V σ pc lv (.int x :: st) := by
  obtain ⟨p, l, e, R, s, m, args, below, meth, c, A, cells, slots, Q⟩ := K
  obtain ⟨hd, rfl, ht⟩ := hd
  intro H locs ls hP hD hS h
  exact lv_if_ge hc.1 hc.2.1 hd ht (fun q => kt q H locs ls hP hD hS h) (fun q => kf q H locs ls hP hD hS h)
theorem x_if_gt {x : Int32} (hc : xk_E K cc nL) (hd : xk_b cc pc (.ifCond .gt off) pc' off tgt) (kt : 0 < x → xk_X K V σ tgt lv st) (kf : ¬ 0 < x → xk_X K V σ pc' lv st) : xk_X K V σ pc lv (.int x :: st) := by
  obtain ⟨p, l, e, R, s, m, args, below, meth, c, A, cells, slots, Q⟩ := K
  obtain ⟨hd, rfl, ht⟩ := hd
  intro H locs ls hP hD hS h
  exact lv_if_gt hc.1 hc.2.1 hd ht (fun q => kt q H locs ls hP hD hS h) (fun q => kf q H locs ls hP hD hS h)
theorem x_if_le {x : Int32} (hc : xk_E K cc nL) (hd : xk_b cc pc (.ifCond .le off) pc' off tgt) (kt : x ≤ 0 → xk_X K V σ tgt lv st) (kf : ¬ x ≤ 0 → xk_X K V σ pc' lv st) : xk_X K V σ pc lv (.int x :: st) := by
  obtain ⟨p, l, e, R, s, m, args, below, meth, c, A, cells, slots, Q⟩ := K
  obtain ⟨hd, rfl, ht⟩ := hd
  intro H locs ls hP hD hS h
  exact lv_if_le hc.1 hc.2.1 hd ht (fun q => kt q H locs ls hP hD hS h) (fun q => kf q H locs ls hP hD hS h)
theorem x_icmp_eq {x y : Int32} (hc : xk_E K cc nL) (hd : xk_b cc pc (.if_icmp .eq off) pc' off tgt) (kt : x = y → xk_X K V σ tgt lv st) (kf : ¬ x = y → xk_X K V σ pc' lv st) : xk_X K V σ pc lv (.int y :: .int x :: st) := by
  obtain ⟨p, l, e, R, s, m, args, below, meth, c, A, cells, slots, Q⟩ := K
  obtain ⟨hd, rfl, ht⟩ := hd
  intro H locs ls hP hD hS h
  exact lv_icmp_eq hc.1 hc.2.1 hd ht (fun q => kt q H locs ls hP hD hS h) (fun q => kf q H locs ls hP hD hS h)
theorem x_icmp_ne {x y : Int32} (hc : xk_E K cc nL) (hd : xk_b cc pc (.if_icmp .ne off) pc' off tgt) (kt : ¬ x = y → xk_X K V σ tgt lv st) (kf : x = y → xk_X K V σ pc' lv st) : xk_X K V σ pc lv (.int y :: .int x :: st) := by
  obtain ⟨p, l, e, R, s, m, args, below, meth, c, A, cells, slots, Q⟩ := K
  obtain ⟨hd, rfl, ht⟩ := hd
  intro H locs ls hP hD hS h
  exact lv_icmp_ne hc.1 hc.2.1 hd ht (fun q => kt q H locs ls hP hD hS h) (fun q => kf q H locs ls hP hD hS h)
theorem x_icmp_lt {x y : Int32} (hc : xk_E K cc nL) (hd : xk_b cc pc (.if_icmp .lt off) pc' off tgt) (kt : x < y → xk_X K V σ tgt lv st) (kf : ¬ x < y → xk_X K V σ pc' lv st) : xk_X K V σ pc lv (.int y :: .int x :: st) := by
  obtain ⟨p, l, e, R, s, m, args, below, meth, c, A, cells, slots, Q⟩ := K
  obtain ⟨hd, rfl, ht⟩ := hd
  intro H locs ls hP hD hS h
  exact lv_icmp_lt hc.1 hc.2.1 hd ht (fun q => kt q H locs ls hP hD hS h) (fun q => kf q H locs ls hP hD hS h)
theorem x_icmp_ge {x y : Int32} (hc : xk_E K cc nL) (hd : xk_b cc pc (.if_icmp .ge off) pc' off tgt) (kt : y ≤ x → xk_X K V σ tgt lv st) (kf : ¬ y ≤ x → xk_X K V σ pc' lv st) : xk_X K V σ pc lv (.int y :: .int x :: st) := by
  obtain ⟨p, l, e, R, s, m, args, below, meth, c, A, cells, slots, Q⟩ := K
  obtain ⟨hd, rfl, ht⟩ := hd
  intro H locs ls hP hD hS h
  exact lv_icmp_ge hc.1 hc.2.1 hd ht (fun q => kt q H locs ls hP hD hS h) (fun q => kf q H locs ls hP hD hS h)
theorem x_icmp_gt {x y : Int32} (hc : xk_E K cc nL) (hd : xk_b cc pc (.if_icmp .gt off) pc' off tgt) (kt : y < x → xk_X K V σ tgt lv st) (kf : ¬ y < x → xk_X K V σ pc' lv st) : xk_X K V σ pc lv (.int y :: .int x :: st) := by
  obtain ⟨p, l, e, R, s, m, args, below, meth, c, A, cells, slots, Q⟩ := K
  obtain ⟨hd, rfl, ht⟩ := hd
  intro H locs ls hP hD hS h
  exact lv_icmp_gt hc.1 hc.2.1 hd ht (fun q => kt q H locs ls hP hD hS h) (fun q => kf q H locs ls hP hD hS h)
theorem x_icmp_le {x y : Int32} (hc : xk_E K cc nL) (hd : xk_b cc pc (.if_icmp .le off) pc' off tgt) (kt : x ≤ y → xk_X K V σ tgt lv st) (kf : ¬ x ≤ y → xk_X K V σ pc' lv st) : xk_X K V σ pc lv (.int y :: .int x :: st) := by
  obtain ⟨p, l, e, R, s, m, args, below, meth, c, A, cells, slots, Q⟩ := K
  obtain ⟨hd, rfl, ht⟩ := hd
  intro H locs ls hP hD hS h
  exact lv_icmp_le hc.1 hc.2.1 hd ht (fun q => kt q H locs ls hP hD hS h) (fun q => kf q H locs ls hP hD hS h)
theorem x_goto (hc : xk_E K cc nL) (hd : xk_b cc pc (.goto off) pc' off tgt) (k : xk_X K V σ tgt lv st) : xk_X K V σ pc lv st := by
  obtain ⟨p, l, e, R, s, m, args, below, meth, c, A, cells, slots, Q⟩ := K
  obtain ⟨hd, rfl, ht⟩ := hd
  intro H locs ls hP hD hS h
  exact lv_goto hc.1 hc.2.1 hd ht (k H locs ls hP hD hS h)
end XR
end
section
/-! THE FRAME, second part: heap, returns, calls; numbers by nI -/
section XN
variable {S : Type} {K : xk_K} {V : xk_V S} {σ : S} {cc : ByteArray} {nL pc pc' tgt : Nat} {off : Int} {lv lv' : List (Nat × Value)} {st : List Value}
theorem xn_icmp_eq {a b : Nat} (hc : xk_E K cc nL) (hd : xk_b cc pc (.if_icmp .eq off) pc' off tgt) (kt : a = b → xk_X K V σ tgt lv st) (kf : a ≠ b → xk_X K V σ pc' lv st) (ha : a < 2 ^ 31 := by omega) (hb : b < 2 ^ 31 := by omega) : xk_X K V σ pc lv (.int (nI b) :: .int (nI a) :: st) :=
  x_icmp_eq hc hd (fun q => kt ((nI_eq ha hb).mp q)) (fun q => kf (fun z => q ((nI_eq ha hb).mpr z)))
theorem xn_icmp_ne {a b : Nat} (hc : xk_E K cc nL) (hd : xk_b cc pc (.if_icmp .ne off) pc' off tgt) (kt : a ≠ b → xk_X K V σ tgt lv st) (kf : a = b → xk_X K V σ pc' lv st) (ha : a < 2 ^ 31 := by omega) (hb : b < 2 ^ 31 := by omega) : xk_X K V σ pc lv (.int (nI b) :: .int (nI a) :: st) :=
  x_icmp_ne hc hd (fun q => kt (fun z => q ((nI_eq ha hb).mpr z))) (fun q => kf ((nI_eq ha hb).mp q))
theorem xn_icmp_lt {a b : Nat} (hc : xk_E K cc nL) (hd : xk_b cc pc (.if_icmp .lt off) pc' off tgt) (kt : a < b → xk_X K V σ tgt lv st) (kf : b ≤ a → xk_X K V σ pc' lv st) (ha : a < 2 ^ 31 := by omega) (hb : b < 2 ^ 31 := by omega) : xk_X K V σ pc lv (.int (nI b) :: .int (nI a) :: st) :=
  x_icmp_lt hc hd (fun q => kt ((nI_ltI ha hb).mp q)) (fun q => kf (by rw [nI_ltI ha hb] at q; omega))
theorem xn_icmp_ge {a b : Nat} (hc : xk_E K cc nL) (hd : xk_b cc pc (.if_icmp .ge off) pc' off tgt) (kt : b ≤ a → xk_X K V σ tgt lv st) (kf : a < b → xk_X K V σ pc' lv st) (ha : a < 2 ^ 31 := by omega) (hb : b < 2 ^ 31 := by omega) : xk_X K V σ pc lv (.int (nI b) :: .int (nI a) :: st) :=
  x_icmp_ge hc hd (fun q => kt ((nI_leI hb ha).mp q)) (fun q => kf (by rw [nI_leI hb ha] at q; omega))
theorem xn_icmp_gt {a b : Nat} (hc : xk_E K cc nL) (hd : xk_b cc pc (.if_icmp .gt off) pc' off tgt) (kt : b < a → xk_X K V σ tgt lv st) (kf : a ≤ b → xk_X K V σ pc' lv st) (ha : a < 2 ^ 31 := by omega) (hb : b < 2 ^ 31 := by omega) : xk_X K V σ pc lv (.int (nI b) :: .int (nI a) :: st) :=
  x_icmp_gt hc hd (fun q => kt ((nI_ltI hb ha).mp q)) (fun q => kf (by rw [nI_ltI hb ha] at q; omega))
theorem xn_icmp_le {a b : Nat} (hc : xk_E K cc nL) (hd : xk_b cc pc (.if_icmp .le off) pc' off tgt) (kt : a ≤ b → xk_X K V σ tgt lv st) (kf : b < a → xk_X K V σ pc' lv st) (ha : a < 2 ^ 31 := by omega) (hb : b < 2 ^ 31 := by omega) : xk_X K V σ pc lv (.int (nI b) :: .int (nI a) :: st) :=
  x_icmp_le hc hd (fun q => kt ((nI_leI ha hb).mp q)) (fun q => kf (by rw [nI_leI ha hb] at q; omega))
theorem xn_z {a : Nat} (h : a < 2 ^ 31) : (nI a = 0 ↔ a = 0) ∧ (nI a < 0 ↔ False) ∧ (0 ≤ nI a ↔ True) ∧ (0 < nI a ↔ 0 < a) ∧ (nI a ≤ 0 ↔ a = 0) := by
  have h0 : (0 : Nat) < 2 ^ 31 := by decide
  refine ⟨?_, ?_, ?_, ?_, ?_⟩
  · rw [← nI_0]; exact nI_eq h h0
  · rw [← nI_0, nI_ltI h h0]; exact ⟨fun q => absurd q (Nat.not_lt_zero _), False.elim⟩
  · rw [← nI_0, nI_leI h0 h]; exact ⟨fun _ => trivial, fun _ => Nat.zero_le _⟩
  · rw [← nI_0]; exact nI_ltI h0 h
  · rw [← nI_0, nI_leI h h0]; omega
theorem xn_if_eq {a : Nat} (hc : xk_E K cc nL) (hd : xk_b cc pc (.ifCond .eq off) pc' off tgt) (kt : a = 0 → xk_X K V σ tgt lv st) (kf : a ≠ 0 → xk_X K V σ pc' lv st) (ha : a < 2 ^ 31 := by omega) : xk_X K V σ pc lv (.int (nI a) :: st) :=
  x_if_eq hc hd (fun q => kt ((xn_z ha).1.mp q)) (fun q => kf (fun z => q ((xn_z ha).1.mpr z)))
theorem xn_if_ne {a : Nat} (hc : xk_E K cc nL) (hd : xk_b cc pc (.ifCond .ne off) pc' off tgt) (kt : a ≠ 0 → xk_X K V σ tgt lv st) (kf : a = 0 → xk_X K V σ pc' lv st) (ha : a < 2 ^ 31 := by omega) : xk_X K V σ pc lv (.int (nI a) :: st) :=
  x_if_ne hc hd (fun q => kt (fun z => q ((xn_z ha).1.mpr z))) (fun q => kf ((xn_z ha).1.mp q))
theorem xn_if_lt {a : Nat} (hc : xk_E K cc nL) (hd : xk_b cc pc (.ifCond .lt off) pc' off tgt) (kt : False → xk_X K V σ tgt lv st) (kf : True → xk_X K V σ pc' lv st) (ha : a < 2 ^ 31 := by omega) : xk_X K V σ pc lv (.int (nI a) :: st) :=
  x_if_lt hc hd (fun q => kt ((xn_z ha).2.1.mp q)) (fun q => kf (trivial))
theorem xn_if_ge {a : Nat} (hc : xk_E K cc nL) (hd : xk_b cc pc (.ifCond .ge off) pc' off tgt) (kt : True → xk_X K V σ tgt lv st) (kf : False → xk_X K V σ pc' lv st) (ha : a < 2 ^ 31 := by omega) : xk_X K V σ pc lv (.int (nI a) :: st) :=
  x_if_ge hc hd (fun q => kt (trivial)) (fun q => kf (q ((xn_z ha).2.2.1.mpr trivial)))
theorem xn_if_gt {a : Nat} (hc : xk_E K cc nL) (hd : xk_b cc pc (.ifCond .gt off) pc' off tgt) (kt : 0 < a → xk_X K V σ tgt lv st) (kf : a = 0 → xk_X K V σ pc' lv st) (ha : a < 2 ^ 31 := by omega) : xk_X K V σ pc lv (.int (nI a) :: st) :=
  x_if_gt hc hd (fun q => kt ((xn_z ha).2.2.2.1.mp q)) (fun q => kf (by rw [(xn_z ha).2.2.2.1] at q; omega))
theorem xn_if_le {a : Nat} (hc : xk_E K cc nL) (hd : xk_b cc pc (.ifCond .le off) pc' off tgt) (kt : a = 0 → xk_X K V σ tgt lv st) (kf : 0 < a → xk_X K V σ pc' lv st) (ha : a < 2 ^ 31 := by omega) : xk_X K V σ pc lv (.int (nI a) :: st) :=
  x_if_le hc hd (fun q => kt ((xn_z ha).2.2.2.2.mp q)) (fun q => kf (by rw [(xn_z ha).2.2.2.2] at q; omega))
theorem nI_inc (a : Nat) : nI a + Int32.ofInt 1 = nI (a + 1) := nI_1 a
theorem nI_dec (a : Nat) (h : 0 < a) : nI a + Int32.ofInt (-1) = nI (a - 1) := sb_m1 h
theorem xn_iadd {a b : Nat} (hc : xk_E K cc nL) (hd : xk_d cc pc .iadd 1 pc') (k : xk_X K V σ pc' lv (.int (nI (a + b)) :: st)) : xk_X K V σ pc lv (.int (nI b) :: .int (nI a) :: st) := x_iadd hc hd (by rw [nI_add]; exact k)
theorem xn_isub {a b : Nat} (hc : xk_E K cc nL) (hd : xk_d cc pc .isub 1 pc') (k : xk_X K V σ pc' lv (.int (nI (a - b)) :: st)) (h : b ≤ a := by omega) : xk_X K V σ pc lv (.int (nI b) :: .int (nI a) :: st) := x_isub hc hd (by rw [pk_sub h]; exact k)
theorem xn_imul {a b : Nat} (hc : xk_E K cc nL) (hd : xk_d cc pc .imul 1 pc') (k : xk_X K V σ pc' lv (.int (nI (a * b)) :: st)) : xk_X K V σ pc lv (.int (nI b) :: .int (nI a) :: st) := x_imul hc hd (by rw [pk_mul]; exact k)
theorem xn_idiv {a b : Nat} (hc : xk_E K cc nL) (hd : xk_d cc pc .idiv 1 pc') (k : xk_X K V σ pc' lv (.int (nI (a / b)) :: st)) (ha : a < 2 ^ 31 := by omega) (h0 : 0 < b := by omega) (hb : b < 2 ^ 31 := by omega) : xk_X K V σ pc lv (.int (nI b) :: .int (nI a) :: st) := x_idiv hc hd (nI_ne0 h0 hb) (by rw [pk_div ha h0 hb]; exact k)
theorem xn_irem {a b : Nat} (hc : xk_E K cc nL) (hd : xk_d cc pc .irem 1 pc') (k : xk_X K V σ pc' lv (.int (nI (a % b)) :: st)) (ha : a < 2 ^ 31 := by omega) (h0 : 0 < b := by omega) (hb : b < 2 ^ 31 := by omega) : xk_X K V σ pc lv (.int (nI b) :: .int (nI a) :: st) := x_irem hc hd (nI_ne0 h0 hb) (by rw [pk_rem ha h0 hb]; exact k)
end XN
section XH
variable {K : xk_K} {w : xk_w} {σ : xk_St} {cc : ByteArray} {nL d pc pc' : Nat} {own : String} {ret : Option FieldType} {P : Option Value → xk_St → Prop} {lv : List (Nat × Value)} {st : List Value}
/-- a kind among the world's, with all that the tables say of it -/
def xk_Cl (w : xk_w) (ci : Nat) (C : String) (T : u_T) (N : Nat) (ty : Nat → FieldType) : Prop := (∀ v ∈ u_ws C T N, v ∈ xk_wT w) ∧ (xk_wC w)[ci]? = some (C, T, N) ∧ (∀ k, k < N → parseFieldDescriptor (T k).2.2.1 = some (ty k)) ∧ (∀ a, a < N → ∀ b, b < N → a ≠ b → (T a).2.1 ≠ (T b).2.1)
theorem x_get {C : String} {T : u_T} {N ci idx k : Nat} {ty : Nat → FieldType} {fks : List xk_FK} {f : xk_FK} (j : Nat) (hc : xk_H K w cc nL own d ret P) (hC : xk_Cl w ci C T N ty) (hj : j < N) (hlink : Cond.fieldLink own idx (T j).1 (T j).2.1 (T j).2.2.1 ∈ (xk_wT w)) (hsh : (xk_wS w)[k]? = some (.inr (ci, fks))) (hf : fks[j]? = some f) (hd : xk_d cc pc (.getfield idx) 3 pc') (kk : xk_X K (xk_vw w) σ pc' lv (xk_fv (xk_wG w).1 σ k j f :: st)) : xk_X K (xk_vw w) σ pc lv (.ref (xk_wA w k) :: st) := by
  obtain ⟨p, l, e, R, s, m, args, below, meth, c, A, cells, slots, Q⟩ := K
  obtain ⟨hd, rfl⟩ := hd
  intro H locs ls hP hD hS h
  exact va_get (D := xk_wD w) (cl := xk_wC w) (ws := xk_ws w σ) hc.1.1 hc.1.2.1 hc.1.2.2.2.2 hC.1 hc.1.2.2.2.1 hc.2.1.1 hP k (xk_wl_at hsh) hC.2.1 j hj (hc.1.2.2.2.2 _ hlink) (fun _ h => h) (by rw [xk_fs_at, hf]; simp) hd (kk H locs ls hP hD hS h)
theorem x_put {C : String} {T : u_T} {N ci idx k : Nat} {ty : Nat → FieldType} {fks : List xk_FK} {v : Int32} (j : Nat) (hc : xk_H K w cc nL own d ret P) (hC : xk_Cl w ci C T N ty) (hj : j < N) (hlink : Cond.fieldLink own idx (T j).1 (T j).2.1 (T j).2.2.1 ∈ (xk_wT w)) (hfin : (T j).2.2.2 = false) (hsh : (xk_wS w)[k]? = some (.inr (ci, fks))) (hf : fks[j]? = some (.inl none)) (hn : narrow (ty j) (.int v) = .int v ∧ fits (ty j) (.int v) = true) (hd : xk_d cc pc (.putfield idx) 3 pc') (kk : xk_X K (xk_vw w) (xk_up σ k j v) pc' lv st) : xk_X K (xk_vw w) σ pc lv (.int v :: .ref (xk_wA w k) :: st) := by
  obtain ⟨p, l, e, R, s, m, args, below, meth, c, A, cells, slots, Q⟩ := K
  obtain ⟨hd, rfl⟩ := hd
  intro H locs ls hP hD hS h
  have hl : j < (xk_fs (xk_wG w).1 σ k 0 fks).length := (List.getElem?_eq_some_iff.mp (show (xk_fs (xk_wG w).1 σ k 0 fks)[j]? = some _ by rw [xk_fs_at, hf]; rfl)).1
  have e1 : (xk_ws w σ).set k (xk_wA w k, .inr (ci, (xk_fs (xk_wG w).1 σ k 0 fks).set j (.int v))) = xk_ws w (xk_up σ k j v) := by
    rw [xk_fs_put v hf]
    exact xk_wl_set (sh := .inr (ci, fks)) hsh (fun i h => xk_up_ne i h)
  refine va_put (D := xk_wD w) (cl := xk_wC w) (ws := xk_ws w σ) hc.1.1 hc.1.2.1 hc.1.2.2.2.2 hC.1 ty hC.2.2.1 hC.2.2.2 hc.1.2.2.2.1 hc.2.1.1 hP hD hS k (xk_wl_at hsh) hC.2.1 j hj (hc.1.2.2.2.2 _ hlink) (fun _ h => h) hfin (hC.2.2.1 j hj) hn.1 hn.2 hl hd (fun H1 locs1 hP1 hD1 hS1 => ?_)
  rw [e1] at hP1 hD1
  exact kk H1 locs1 ls hP1 hD1 hS1 h
theorem x_putL {C : String} {T : u_T} {N ci idx k : Nat} {ty : Nat → FieldType} {fks : List xk_FK} {v : Int64} (j : Nat) (hc : xk_H K w cc nL own d ret P) (hC : xk_Cl w ci C T N ty) (hj : j < N) (hlink : Cond.fieldLink own idx (T j).1 (T j).2.1 (T j).2.2.1 ∈ (xk_wT w)) (hfin : (T j).2.2.2 = false) (hsh : (xk_wS w)[k]? = some (.inr (ci, fks))) (hf : fks[j]? = some (.inr ())) (hn : narrow (ty j) (.long v) = .long v ∧ fits (ty j) (.long v) = true) (hd : xk_d cc pc (.putfield idx) 3 pc') (kk : xk_X K (xk_vw w) (xk_upL σ k j v) pc' lv st) : xk_X K (xk_vw w) σ pc lv (.long v :: .ref (xk_wA w k) :: st) := by
  obtain ⟨p, l, e, R, s, m, args, below, meth, c, A, cells, slots, Q⟩ := K
  obtain ⟨hd, rfl⟩ := hd
  intro H locs ls hP hD hS h
  have hl : j < (xk_fs (xk_wG w).1 σ k 0 fks).length := (List.getElem?_eq_some_iff.mp (show (xk_fs (xk_wG w).1 σ k 0 fks)[j]? = some _ by rw [xk_fs_at, hf]; rfl)).1
  have e1 : (xk_ws w σ).set k (xk_wA w k, .inr (ci, (xk_fs (xk_wG w).1 σ k 0 fks).set j (.long v))) = xk_ws w (xk_upL σ k j v) := by
    rw [xk_fs_putL v hf]
    exact xk_wl_set (sh := .inr (ci, fks)) hsh (fun i h => xk_upL_ne i h)
  refine va_put (D := xk_wD w) (cl := xk_wC w) (ws := xk_ws w σ) hc.1.1 hc.1.2.1 hc.1.2.2.2.2 hC.1 ty hC.2.2.1 hC.2.2.2 hc.1.2.2.2.1 hc.2.1.1 hP hD hS k (xk_wl_at hsh) hC.2.1 j hj (hc.1.2.2.2.2 _ hlink) (fun _ h => h) hfin (hC.2.2.1 j hj) hn.1 hn.2 hl hd (fun H1 locs1 hP1 hD1 hS1 => ?_)
  rw [e1] at hP1 hD1
  exact kk H1 locs1 ls hP1 hD1 hS1 h
theorem x_getN {host : String} {C : String} {T : u_T} {N ci idx k : Nat} {ty : Nat → FieldType} {fks : List xk_FK} {f : xk_FK} (j : Nat) (hc : xk_H K w cc nL own d ret P) (hC : xk_Cl w ci C T N ty) (hj : j < N) (hlink : Cond.fieldLinkNest own idx (T j).1 (T j).2.1 (T j).2.2.1 host ∈ (xk_wN w)) (hsh : (xk_wS w)[k]? = some (.inr (ci, fks))) (hf : fks[j]? = some f) (hd : xk_d cc pc (.getfield idx) 3 pc') (kk : xk_X K (xk_vw w) σ pc' lv (xk_fv (xk_wG w).1 σ k j f :: st)) : xk_X K (xk_vw w) σ pc lv (.ref (xk_wA w k) :: st) := by
  obtain ⟨p, l, e, R, s, m, args, below, meth, c, A, cells, slots, Q⟩ := K
  obtain ⟨hd, rfl⟩ := hd
  intro H locs ls hP hD hS h
  exact va_getN (D := xk_wD w) (cl := xk_wC w) (ws := xk_ws w σ) hc.1.1 hc.1.2.1 hc.1.2.2.2.2 hC.1 hc.1.2.2.2.1 hc.2.1.1 hP k (xk_wl_at hsh) hC.2.1 j hj (hc.2.1.n hlink) (fun _ h => h) (by rw [xk_fs_at, hf]; simp) hd (kk H locs ls hP hD hS h)
theorem x_putN {host : String} {C : String} {T : u_T} {N ci idx k : Nat} {ty : Nat → FieldType} {fks : List xk_FK} {v : Int32} (j : Nat) (hc : xk_H K w cc nL own d ret P) (hC : xk_Cl w ci C T N ty) (hj : j < N) (hlink : Cond.fieldLinkNest own idx (T j).1 (T j).2.1 (T j).2.2.1 host ∈ (xk_wN w)) (hfin : (T j).2.2.2 = false) (hsh : (xk_wS w)[k]? = some (.inr (ci, fks))) (hf : fks[j]? = some (.inl none)) (hn : narrow (ty j) (.int v) = .int v ∧ fits (ty j) (.int v) = true) (hd : xk_d cc pc (.putfield idx) 3 pc') (kk : xk_X K (xk_vw w) (xk_up σ k j v) pc' lv st) : xk_X K (xk_vw w) σ pc lv (.int v :: .ref (xk_wA w k) :: st) := by
  obtain ⟨p, l, e, R, s, m, args, below, meth, c, A, cells, slots, Q⟩ := K
  obtain ⟨hd, rfl⟩ := hd
  intro H locs ls hP hD hS h
  have hl : j < (xk_fs (xk_wG w).1 σ k 0 fks).length := (List.getElem?_eq_some_iff.mp (show (xk_fs (xk_wG w).1 σ k 0 fks)[j]? = some _ by rw [xk_fs_at, hf]; rfl)).1
  have e1 : (xk_ws w σ).set k (xk_wA w k, .inr (ci, (xk_fs (xk_wG w).1 σ k 0 fks).set j (.int v))) = xk_ws w (xk_up σ k j v) := by
    rw [xk_fs_put v hf]
    exact xk_wl_set (sh := .inr (ci, fks)) hsh (fun i h => xk_up_ne i h)
  refine va_putN (D := xk_wD w) (cl := xk_wC w) (ws := xk_ws w σ) hc.1.1 hc.1.2.1 hc.1.2.2.2.2 hC.1 ty hC.2.2.1 hC.2.2.2 hc.1.2.2.2.1 hc.2.1.1 hP hD hS k (xk_wl_at hsh) hC.2.1 j hj (hc.2.1.n hlink) (fun _ h => h) hfin (hC.2.2.1 j hj) hn.1 hn.2 hl hd (fun H1 locs1 hP1 hD1 hS1 => ?_)
  rw [e1] at hP1 hD1
  exact kk H1 locs1 ls hP1 hD1 hS1 h
theorem x_putLN {host : String} {C : String} {T : u_T} {N ci idx k : Nat} {ty : Nat → FieldType} {fks : List xk_FK} {v : Int64} (j : Nat) (hc : xk_H K w cc nL own d ret P) (hC : xk_Cl w ci C T N ty) (hj : j < N) (hlink : Cond.fieldLinkNest own idx (T j).1 (T j).2.1 (T j).2.2.1 host ∈ (xk_wN w)) (hfin : (T j).2.2.2 = false) (hsh : (xk_wS w)[k]? = some (.inr (ci, fks))) (hf : fks[j]? = some (.inr ())) (hn : narrow (ty j) (.long v) = .long v ∧ fits (ty j) (.long v) = true) (hd : xk_d cc pc (.putfield idx) 3 pc') (kk : xk_X K (xk_vw w) (xk_upL σ k j v) pc' lv st) : xk_X K (xk_vw w) σ pc lv (.long v :: .ref (xk_wA w k) :: st) := by
  obtain ⟨p, l, e, R, s, m, args, below, meth, c, A, cells, slots, Q⟩ := K
  obtain ⟨hd, rfl⟩ := hd
  intro H locs ls hP hD hS h
  have hl : j < (xk_fs (xk_wG w).1 σ k 0 fks).length := (List.getElem?_eq_some_iff.mp (show (xk_fs (xk_wG w).1 σ k 0 fks)[j]? = some _ by rw [xk_fs_at, hf]; rfl)).1
  have e1 : (xk_ws w σ).set k (xk_wA w k, .inr (ci, (xk_fs (xk_wG w).1 σ k 0 fks).set j (.long v))) = xk_ws w (xk_upL σ k j v) := by
    rw [xk_fs_putL v hf]
    exact xk_wl_set (sh := .inr (ci, fks)) hsh (fun i h => xk_upL_ne i h)
  refine va_putN (D := xk_wD w) (cl := xk_wC w) (ws := xk_ws w σ) hc.1.1 hc.1.2.1 hc.1.2.2.2.2 hC.1 ty hC.2.2.1 hC.2.2.2 hc.1.2.2.2.1 hc.2.1.1 hP hD hS k (xk_wl_at hsh) hC.2.1 j hj (hc.2.1.n hlink) (fun _ h => h) hfin (hC.2.2.1 j hj) hn.1 hn.2 hl hd (fun H1 locs1 hP1 hD1 hS1 => ?_)
  rw [e1] at hP1 hD1
  exact kk H1 locs1 ls hP1 hD1 hS1 h
theorem x_iald {k n i : Nat} {x : Int32} (hc : xk_H K w cc nL own d ret P) (hsh : (xk_wS w)[k]? = some (.inl (0, n))) (hx : x = nI i) (hi : i < n) (hn : n < 2 ^ 31) (hd : xk_d cc pc .iaload 1 pc') {v : Int32} (hv : σ.1 k i = v) (kk : xk_X K (xk_vw w) σ pc' lv (.int v :: st)) : xk_X K (xk_vw w) σ pc lv (.int x :: .ref (xk_wA w k) :: st) := by
  obtain ⟨p, l, e, R, s, m, args, below, meth, c, A, cells, slots, Q⟩ := K
  obtain ⟨hd, rfl⟩ := hd
  intro H locs ls hP hD hS h
  subst hx
  refine va_iald (D := xk_wD w) (cl := xk_wC w) (ws := xk_ws w σ) (f := σ.1 k) hc.1.1 hc.1.2.1 (hc.2.1.k hsh) hP k 0 (xk_wl_at hsh) rfl (vp_in_nI hi hn) hd ?_
  rw [nI_clamp (Nat.lt_trans hi hn), hv]
  exact kk H locs ls hP hD hS h
theorem x_zald {k n i : Nat} {x : Int32} (hc : xk_H K w cc nL own d ret P) (hsh : (xk_wS w)[k]? = some (.inl (1, n))) (hx : x = nI i) (hi : i < n) (hn : n < 2 ^ 31) (hd : xk_d cc pc .baload 1 pc') {v : Int32} (hv : σ.1 k i = v) (kk : xk_X K (xk_vw w) σ pc' lv (.int v :: st)) : xk_X K (xk_vw w) σ pc lv (.int x :: .ref (xk_wA w k) :: st) := by
  obtain ⟨p, l, e, R, s, m, args, below, meth, c, A, cells, slots, Q⟩ := K
  obtain ⟨hd, rfl⟩ := hd
  intro H locs ls hP hD hS h
  subst hx
  refine va_zald (D := xk_wD w) (cl := xk_wC w) (ws := xk_ws w σ) (f := σ.1 k) hc.1.1 hc.1.2.1 (hc.2.1.k hsh) hP k 0 (xk_wl_at hsh) rfl (vp_in_nI hi hn) hd ?_
  rw [nI_clamp (Nat.lt_trans hi hn), hv]
  exact kk H locs ls hP hD hS h
theorem x_iast {k n i : Nat} {x v : Int32} (hc : xk_H K w cc nL own d ret P) (hsh : (xk_wS w)[k]? = some (.inl (0, n))) (hx : x = nI i) (hi : i < n) (hn : n < 2 ^ 31) (hd : xk_d cc pc .iastore 1 pc') (kk : xk_X K (xk_vw w) (xk_up σ k i v) pc' lv st) : xk_X K (xk_vw w) σ pc lv (.int v :: .int x :: .ref (xk_wA w k) :: st) := by
  obtain ⟨p, l, e, R, s, m, args, below, meth, c, A, cells, slots, Q⟩ := K
  obtain ⟨hd, rfl⟩ := hd
  intro H locs ls hP hD hS h
  subst hx
  have e1 : (xk_ws w σ).set k (xk_wA w k, .inl ((xk_wG w).2 k, n, .inl (upd (σ.1 k) i v))) = xk_ws w (xk_up σ k i v) := by
    have e2 : upd (σ.1 k) i v = (xk_up σ k i v).1 k := by funext b; simp [upd, xk_up]
    rw [e2]
    exact xk_wl_set (sh := .inl (0, n)) hsh (fun i h => xk_up_ne i h)
  refine va_iast (D := xk_wD w) (cl := xk_wC w) (ws := xk_ws w σ) (f := σ.1 k) hc.1.1 hc.1.2.1 (hc.2.1.k hsh) hP hD hS k 0 (xk_wl_at hsh) rfl (vp_in_nI hi hn) hd (fun H1 locs1 hP1 hD1 hS1 => ?_)
  rw [nI_clamp (Nat.lt_trans hi hn), e1] at hP1 hD1
  exact kk H1 locs1 ls hP1 hD1 hS1 h
theorem x_zast {k n i : Nat} {x v : Int32} (hc : xk_H K w cc nL own d ret P) (hsh : (xk_wS w)[k]? = some (.inl (1, n))) (hx : x = nI i) (hi : i < n) (hn : n < 2 ^ 31) (hv : vp_nar .boolean v = v) (hd : xk_d cc pc .bastore 1 pc') (kk : xk_X K (xk_vw w) (xk_up σ k i v) pc' lv st) : xk_X K (xk_vw w) σ pc lv (.int v :: .int x :: .ref (xk_wA w k) :: st) := by
  obtain ⟨p, l, e, R, s, m, args, below, meth, c, A, cells, slots, Q⟩ := K
  obtain ⟨hd, rfl⟩ := hd
  intro H locs ls hP hD hS h
  subst hx
  have e1 : (xk_ws w σ).set k (xk_wA w k, .inl ((xk_wG w).2 k, n, .inl (upd (σ.1 k) i v))) = xk_ws w (xk_up σ k i v) := by
    have e2 : upd (σ.1 k) i v = (xk_up σ k i v).1 k := by funext b; simp [upd, xk_up]
    rw [e2]
    exact xk_wl_set (sh := .inl (1, n)) hsh (fun i h => xk_up_ne i h)
  refine va_zast (D := xk_wD w) (cl := xk_wC w) (ws := xk_ws w σ) (f := σ.1 k) hc.1.1 hc.1.2.1 (hc.2.1.k hsh) hP hD hS k 0 (xk_wl_at hsh) rfl (vp_in_nI hi hn) hd (fun H1 locs1 hP1 hD1 hS1 => ?_)
  rw [nI_clamp (Nat.lt_trans hi hn), hv, e1] at hP1 hD1
  exact kk H1 locs1 ls hP1 hD1 hS1 h
theorem x_aald {k n i b : Nat} {x : Int32} (hc : xk_H K w cc nL own d ret P) (hsh : (xk_wS w)[k]? = some (.inl (b + 2, n))) (hx : x = nI i) (hi : i < n) (hn : n < 2 ^ 31) (hd : xk_d cc pc .aaload 1 pc') (kk : xk_X K (xk_vw w) σ pc' lv (.ref (xk_wA w (b + i)) :: st)) : xk_X K (xk_vw w) σ pc lv (.int x :: .ref (xk_wA w k) :: st) := by
  obtain ⟨p, l, e, R, s, m, args, below, meth, c, A, cells, slots, Q⟩ := K
  obtain ⟨hd, rfl⟩ := hd
  intro H locs ls hP hD hS h
  subst hx
  refine va_aldq (D := xk_wD w) (cl := xk_wC w) (ws := xk_ws w σ) (f := fun u => some (xk_wA w (b + u))) hc.1.1 hc.1.2.1 (hc.2.1.k hsh) hP k 0 (xk_wl_at hsh) rfl (vp_in_nI hi hn) hd ?_
  rw [nI_clamp (Nat.lt_trans hi hn)]
  exact kk H locs ls hP hD hS h
theorem x_alen {k n kd : Nat} (hc : xk_H K w cc nL own d ret P) (hsh : (xk_wS w)[k]? = some (.inl (kd, n))) (hd : xk_d cc pc .arraylength 1 pc') (kk : xk_X K (xk_vw w) σ pc' lv (.int (nI n) :: st)) : xk_X K (xk_vw w) σ pc lv (.ref (xk_wA w k) :: st) := by
  obtain ⟨p, l, e, R, s, m, args, below, meth, c, A, cells, slots, Q⟩ := K
  obtain ⟨hd, rfl⟩ := hd
  intro H locs ls hP hD hS h
  exact va_alen (D := xk_wD w) (cl := xk_wC w) (ws := xk_ws w σ) (v := nI n) hc.1.1 hc.1.2.1 (hc.2.1.k hsh) hP k 0 (xk_wl_at hsh) rfl rfl hd (kk H locs ls hP hD hS h)
theorem x_ireturn {v : Int32} (hc : xk_H K w cc nL own d (some .int) P) (hd : xk_d cc pc .ireturn 1 pc') (hp : P (some (.int v)) σ) : xk_X K (xk_vw w) σ pc lv [.int v] := by
  obtain ⟨p, l, e, R, s, m, args, below, meth, c, A, cells, slots, Q⟩ := K
  obtain ⟨hf, hKK, -, ⟨hr, hlk⟩, ⟨rfl, rfl⟩, rfl, rfl⟩ := hc
  intro H locs ls hP hD hS h
  exact W.iret hf.1 hf.2.1 hr (fun t ht hW => ⟨⟨some (.int v), σ, rfl, hp, by rw [ht]; exact hP⟩, hS.F ht⟩) hS.2.2 hd.1 hlk
theorem x_zreturn {v : Int32} (hc : xk_H K w cc nL own d (some .boolean) P) (hd : xk_d cc pc .ireturn 1 pc') (hn : narrow .boolean (.int v) = .int v) (hp : P (some (.int v)) σ) : xk_X K (xk_vw w) σ pc lv [.int v] := by
  obtain ⟨p, l, e, R, s, m, args, below, meth, c, A, cells, slots, Q⟩ := K
  obtain ⟨hf, hKK, -, ⟨hr, hlk⟩, ⟨rfl, rfl⟩, rfl, rfl⟩ := hc
  intro H locs ls hP hD hS h
  exact W.zret hf.1 hf.2.1 hr hn (fun t ht hW => ⟨⟨some (.int v), σ, rfl, hp, by rw [ht]; exact hP⟩, hS.F ht⟩) hS.2.2 hd.1 hlk
theorem x_lreturn {v : Int64} (hc : xk_H K w cc nL own d (some .long) P) (hd : xk_d cc pc .lreturn 1 pc') (hp : P (some (.long v)) σ) : xk_X K (xk_vw w) σ pc lv [.long v] := by
  obtain ⟨p, l, e, R, s, m, args, below, meth, c, A, cells, slots, Q⟩ := K
  obtain ⟨hf, hKK, -, ⟨hr, hlk⟩, ⟨rfl, rfl⟩, rfl, rfl⟩ := hc
  intro H locs ls hP hD hS h
  exact W.lret hf.1 hf.2.1 hr (fun t ht hW => ⟨⟨some (.long v), σ, rfl, hp, by rw [ht]; exact hP⟩, hS.F ht⟩) hS.2.2 hd.1 hlk
theorem x_vreturn (hc : xk_H K w cc nL own d none P) (hd : xk_d cc pc .return_ 1 pc') (hp : P none σ) : xk_X K (xk_vw w) σ pc lv [] := by
  obtain ⟨p, l, e, R, s, m, args, below, meth, c, A, cells, slots, Q⟩ := K
  obtain ⟨hf, hKK, -, ⟨hr, hlk⟩, ⟨rfl, rfl⟩, rfl, rfl⟩ := hc
  intro H locs ls hP hD hS h
  exact W.vret hf.1 hf.2.1 hr (fun t ht hW => ⟨⟨none, σ, rfl, hp, by rw [ht]; exact hP⟩, hS.F ht⟩) hS.2.2 hd.1 hlk
end XH
section XC
variable {p : Program} {l : Launch} {e : Env} {R : Room} {s : State} {m : MethodId} {args : Array Value} {below : List Frame} {meth : Method} {c : Code} {H : Heap} {locs : List Loc} {cells slots : Nat} {Q : State → Prop}
variable {pc : Nat} {ls : Array Slot} {rest st0 : List Value} {a : Array Value} {A0 A1 : Nat → Prop} {H0 : Heap} {free : Addr → Prop}
/-- behind a call: the world that the callee leaves -/
theorem xk_on {w : xk_w} {P : Option Value → xk_St → Prop} (hr : va_Run p l e R s m args below meth c H locs cells slots 0 0 (F0 m pc ls st0) rest (xk_Qc w P A1 a) free) (hS : va_S A0 H0 H locs) (hA : ∀ q, q < H.size → A1 q → A0 q) (hf : ∀ q, free q → A0 q)
    (kk : ∀ (v : Option Value) (τ : xk_St) (H1 : Heap) (locs1 : List Loc), P v τ → va_P (xk_wD w) (xk_wC w) (xk_ws w τ) H1 → (∀ q : Nat, q < H.size → ¬ A1 q → H1[q]? = H[q]?) → va_S A0 H0 H1 locs1 → W p l e R s m args below meth c H1 locs1 cells slots Q (F0 m (pc + 3) ls (v.toList ++ rest))) : W p l e R s m args below meth c H locs cells slots Q (F0 m pc ls st0) := by
  intro T hT X
  obtain ⟨v, st₀, t, T', L, h0, X', hL, e1, e2, ⟨⟨v', τ, hv, hp, hP⟩, hz, hk⟩, st⟩ := hr T hT X
  cases hv
  rw [h0] at hz hk
  obtain ⟨t2, a1, b1⟩ := kk v τ T'.heap (locs ++ L) hp (by rw [e1]; exact hP) (fun q h1 h2 => by rw [e1]; exact hk q h1 h2)
    ⟨Nat.le_trans hS.1 (by rw [e1]; exact hz), fun q h1 h2 => by rw [e1, hk q (Nat.lt_of_lt_of_le h1 hS.1) (fun z => h2 (hA q (Nat.lt_of_lt_of_le h1 hS.1) z))]; exact hS.2.1 q h1 h2, fun q hq => by
      rcases List.mem_append.mp hq with h | h
      · exact hS.2.2 q h
      · exact hf _ (hL q h)⟩ T' rfl X'
  exact ⟨t2, st t2 a1, b1⟩
end XC
section XI
variable {K : xk_K} {w : xk_w} {σ : xk_St} {cc : ByteArray} {nL d d' pc pc' idx n : Nat} {own host : String} {ret : Option FieldType} {P P' : Option Value → xk_St → Prop} {lv : List (Nat × Value)} {st As : List Value} {y : xk_Y}
def xk_good (w : xk_w) : Prop := ∀ v ∈ (xk_wT w), (v.onTables && v.keeps) = true ∨ ∃ ty, v = .arrayClass ty
theorem xk_goodIn (hg : xk_good w) (hcode : Cond.code y.1 y.2.1 y.2.2.1 y.2.2.2 ∈ xk_wT w) : GoodIn (xk_wT w) (Cond.code y.1 y.2.1 y.2.2.1 y.2.2.2 :: xk_wT w) := by
  intro v hv
  rcases List.mem_cons.mp hv with rfl | h
  · exact ⟨hcode, hg _ hcode⟩
  · exact ⟨h, hg _ h⟩
/-- what the tables say of a method that is called -/
def xk_CY (w : xk_w) (y : xk_Y) (n : Nat) : Prop := Cond.code y.1 y.2.1 y.2.2.1 y.2.2.2 ∈ (xk_wT w) ∧ Cond.initialized y.1.cls ∈ (xk_wT w) ∧ (y.1.cls ≠ "java/lang/invoke/MethodHandle" ∧ y.1.cls ≠ "java/lang/invoke/VarHandle" ∧ (parseMethodDescriptor y.1.desc).map (fun d => d.parameters.length) = some n) ∧ y.2.2.1 ≤ 21
theorem xk_pre {s : State} {H : Heap} {args : List Value} (hKK : xk_KK w s) (hP : va_P (xk_wD w) (xk_wC w) (xk_ws w σ) H) {A : Nat → Prop} (hD : va_D A (xk_ws w σ)) : PreS s H (va_Pc args (fun U => U.heap.size = H.size ∧ va_P (xk_wD w) (xk_wC w) (xk_ws w σ) U.heap ∧ xk_KK w U ∧ va_D (fun _ => True) (xk_ws w σ))) args :=
  ⟨fun a U g mk q => by obtain ⟨q0, q1, qP, qK, qD⟩ := q; exact ⟨q0, q1, qP, xk_KK.same (u := U) (U := U.calling g mk a) rfl qK, qD⟩, fun U hU hW => ⟨rfl, by rw [hU], by rw [hU]; exact hP, hKK.moved hW, hD.weaken (fun _ _ _ _ => trivial)⟩⟩
theorem xk_sub {s : State} {H : Heap} {A : Nat → Prop} {locs : List Loc} (hD : va_D A (xk_ws w σ)) (hS : va_S A s.heap H locs) (hA : ∀ q, s.heap.size ≤ q → A q) : ∀ q, xk_A (xk_wS w) (xk_wG w) H.size q → A q := by
  intro q h
  rcases h with ⟨k, hk, rfl⟩ | h
  · exact xk_D_in hD hk
  · exact hA q (Nat.le_trans hS.1 h)
theorem x_callVN {k ci N : Nat} {T : u_T} {fks : List xk_FK} (hc : xk_H K w cc nL own d ret P) (hg : xk_good w) (hy : xk_CY w y n) (hlink : Cond.methodLinkNest own idx y.1 host ∈ (xk_wN w)) (hsh : (xk_wS w)[k]? = some (.inr (ci, fks))) (hcl : (xk_wC w)[ci]? = some (y.1.cls, T, N)) (hin : Cond.instanceMethod y.1 ∈ xk_wT w) (hsel : Cond.selects y.1.cls y.1 y.1 ∈ xk_wT w) (hM : xk_M w d' y (.ref (xk_wA w k) :: As) σ P') (hdd : d' + 1 ≤ d) (hn : As.length = n) (hst : (st.map fun v => v.category).sum ≤ 8) (hd : xk_d cc pc (.invokevirtual idx) 3 pc') (kk : ∀ (v : Option Value) (τ : xk_St), P' v τ → xk_X K (xk_vw w) τ pc' lv (v.toList ++ st)) : xk_X K (xk_vw w) σ pc lv (As.reverse ++ .ref (xk_wA w k) :: st) := by
  obtain ⟨p, l, e, R, s, m, args, below, meth, c, A, cells, slots, Q⟩ := K
  obtain ⟨hd, rfl⟩ := hd
  intro H locs ls hP hD hS h
  have hA : ∀ q, s.heap.size ≤ q → A q := fun q h => by rw [hc.2.2.2.2.2.1]; exact Or.inr h
  have hF := xk_sub hD hS hA
  have hrm : 8 + (y.2.2.1 + 11) + (xk_rm d').locals ≤ R.locals := by
    have h1 := hc.2.2.1.2
    have h2 := hy.2.2.2
    show 8 + (y.2.2.1 + 11) + 40 * d' ≤ R.locals
    omega
  obtain ⟨hcl0, hsl0⟩ := hc.2.2.2.2.1
  refine xk_on (va_runVN (As := As) (rest := st) ⟨hc.1.1, hc.1.2.1, rfl, hc.1.2.2.2.1, hc.1.2.2.2.2⟩ (hM l H.size) ⟨va_cnB (host := host) n hc.1.2.2.2.2 (xk_goodIn hg hy.1) rfl rfl rfl (hc.2.1.n hlink) (hc.1.2.2.2.2 _ hy.2.1) hy.2.2.1 ⟨Nat.le_trans hdd hc.2.2.1.1, hrm⟩, hc.1.2.2.2.2 _ hin, hc.1.2.2.2.2 _ hsel⟩ ⟨(xk_pre (args := []) hc.2.1 hP hD).1 |> fun _ => (xk_pre (args := .ref (xk_wA w k) :: As) hc.2.1 hP hD).1, va_recv hc.2.1.1 hP hcl (xk_wl_at hsh), (xk_pre (args := .ref (xk_wA w k) :: As) hc.2.1 hP hD).2⟩ rfl hn h.1 rfl (lv_room hst) hd ⟨by rw [hcl0]; exact Nat.zero_le _, by rw [hsl0]; exact Nat.zero_le _⟩) hS (fun q _ h => hF q h) hF (fun v τ H1 locs1 hp hP1 _ hS1 => ?_)
  exact kk v τ hp H1 locs1 ls hP1 (xk_D_of hD (fun k hk => xk_D_in hD hk)) hS1 h
theorem x_callSN (hc : xk_H K w cc nL own d ret P) (hg : xk_good w) (hy : xk_CY w y n) (hlink : Cond.methodLinkNest own idx y.1 host ∈ (xk_wN w)) (hstat : Cond.static y.1 ∈ xk_wT w) (hM : xk_M w d' y As σ P') (hdd : d' + 1 ≤ d) (hn : As.length = n) (hst : (st.map fun v => v.category).sum ≤ 8) (hd : xk_d cc pc (.invokestatic idx) 3 pc') (kk : ∀ (v : Option Value) (τ : xk_St), P' v τ → xk_X K (xk_vw w) τ pc' lv (v.toList ++ st)) : xk_X K (xk_vw w) σ pc lv (As.reverse ++ st) := by
  obtain ⟨p, l, e, R, s, m, args, below, meth, c, A, cells, slots, Q⟩ := K
  obtain ⟨hd, rfl⟩ := hd
  intro H locs ls hP hD hS h
  have hA : ∀ q, s.heap.size ≤ q → A q := fun q h => by rw [hc.2.2.2.2.2.1]; exact Or.inr h
  have hF := xk_sub hD hS hA
  have hrm : 8 + (y.2.2.1 + 11) + (xk_rm d').locals ≤ R.locals := by
    have h1 := hc.2.2.1.2
    have h2 := hy.2.2.2
    show 8 + (y.2.2.1 + 11) + 40 * d' ≤ R.locals
    omega
  obtain ⟨hcl0, hsl0⟩ := hc.2.2.2.2.1
  refine xk_on (va_runSN (As := As) (rest := st) ⟨hc.1.1, hc.1.2.1, rfl, hc.1.2.2.2.1, hc.1.2.2.2.2⟩ (hM l H.size) ⟨va_cnB (host := host) n hc.1.2.2.2.2 (xk_goodIn hg hy.1) rfl rfl rfl (hc.2.1.n hlink) (hc.1.2.2.2.2 _ hy.2.1) hy.2.2.1 ⟨Nat.le_trans hdd hc.2.2.1.1, hrm⟩, hc.1.2.2.2.2 _ hstat, trivial⟩ (xk_pre hc.2.1 hP hD) rfl hn h.1 rfl (lv_room hst) hd ⟨by rw [hcl0]; exact Nat.zero_le _, by rw [hsl0]; exact Nat.zero_le _⟩) hS (fun q _ h => hF q h) hF (fun v τ H1 locs1 hp hP1 _ hS1 => ?_)
  exact kk v τ hp H1 locs1 ls hP1 (xk_D_of hD (fun k hk => xk_D_in hD hk)) hS1 h
theorem x_callV {k ci N : Nat} {T : u_T} {fks : List xk_FK} (hc : xk_H K w cc nL own d ret P) (hg : xk_good w) (hy : xk_CY w y n) (hlink : Cond.methodLink own idx y.1 ∈ (xk_wT w)) (hsh : (xk_wS w)[k]? = some (.inr (ci, fks))) (hcl : (xk_wC w)[ci]? = some (y.1.cls, T, N)) (hin : Cond.instanceMethod y.1 ∈ xk_wT w) (hsel : Cond.selects y.1.cls y.1 y.1 ∈ xk_wT w) (hM : xk_M w d' y (.ref (xk_wA w k) :: As) σ P') (hdd : d' + 1 ≤ d) (hn : As.length = n) (hst : (st.map fun v => v.category).sum ≤ 8) (hd : xk_d cc pc (.invokevirtual idx) 3 pc') (kk : ∀ (v : Option Value) (τ : xk_St), P' v τ → xk_X K (xk_vw w) τ pc' lv (v.toList ++ st)) : xk_X K (xk_vw w) σ pc lv (As.reverse ++ .ref (xk_wA w k) :: st) := by
  obtain ⟨p, l, e, R, s, m, args, below, meth, c, A, cells, slots, Q⟩ := K
  obtain ⟨hd, rfl⟩ := hd
  intro H locs ls hP hD hS h
  have hA : ∀ q, s.heap.size ≤ q → A q := fun q h => by rw [hc.2.2.2.2.2.1]; exact Or.inr h
  have hF := xk_sub hD hS hA
  have hrm : 8 + (y.2.2.1 + 11) + (xk_rm d').locals ≤ R.locals := by
    have h1 := hc.2.2.1.2
    have h2 := hy.2.2.2
    show 8 + (y.2.2.1 + 11) + 40 * d' ≤ R.locals
    omega
  obtain ⟨hcl0, hsl0⟩ := hc.2.2.2.2.1
  have hCB : CallB R s args own idx y.1 y.2.1 y.2.2.1 y.2.2.2 (Cond.code y.1 y.2.1 y.2.2.1 y.2.2.2 :: xk_wT w) (xk_rm d') 0 0 n := callB_of n hc.1.2.2.2.2 (xk_goodIn hg hy.1) rfl rfl rfl (hc.1.2.2.2.2 _ hy.2.1) (hc.1.2.2.2.2 _ hlink) hy.2.2.1 ⟨Nat.le_trans hdd hc.2.2.1.1, hrm⟩
  refine xk_on (va_runV (As := As) (rest := st) ⟨hc.1.1, hc.1.2.1, rfl, hc.1.2.2.2.1, hc.1.2.2.2.2⟩ (hM l H.size) ⟨hCB, hc.1.2.2.2.2 _ hin, hc.1.2.2.2.2 _ hsel⟩ ⟨(xk_pre (args := []) hc.2.1 hP hD).1 |> fun _ => (xk_pre (args := .ref (xk_wA w k) :: As) hc.2.1 hP hD).1, va_recv hc.2.1.1 hP hcl (xk_wl_at hsh), (xk_pre (args := .ref (xk_wA w k) :: As) hc.2.1 hP hD).2⟩ rfl hn h.1 rfl (lv_room hst) hd ⟨by rw [hcl0]; exact Nat.zero_le _, by rw [hsl0]; exact Nat.zero_le _⟩) hS (fun q _ h => hF q h) hF (fun v τ H1 locs1 hp hP1 _ hS1 => ?_)
  exact kk v τ hp H1 locs1 ls hP1 (xk_D_of hD (fun k hk => xk_D_in hD hk)) hS1 h
theorem x_callS (hc : xk_H K w cc nL own d ret P) (hg : xk_good w) (hy : xk_CY w y n) (hlink : Cond.methodLink own idx y.1 ∈ (xk_wT w)) (hstat : Cond.static y.1 ∈ xk_wT w) (hM : xk_M w d' y As σ P') (hdd : d' + 1 ≤ d) (hn : As.length = n) (hst : (st.map fun v => v.category).sum ≤ 8) (hd : xk_d cc pc (.invokestatic idx) 3 pc') (kk : ∀ (v : Option Value) (τ : xk_St), P' v τ → xk_X K (xk_vw w) τ pc' lv (v.toList ++ st)) : xk_X K (xk_vw w) σ pc lv (As.reverse ++ st) := by
  obtain ⟨p, l, e, R, s, m, args, below, meth, c, A, cells, slots, Q⟩ := K
  obtain ⟨hd, rfl⟩ := hd
  intro H locs ls hP hD hS h
  have hA : ∀ q, s.heap.size ≤ q → A q := fun q h => by rw [hc.2.2.2.2.2.1]; exact Or.inr h
  have hF := xk_sub hD hS hA
  have hrm : 8 + (y.2.2.1 + 11) + (xk_rm d').locals ≤ R.locals := by
    have h1 := hc.2.2.1.2
    have h2 := hy.2.2.2
    show 8 + (y.2.2.1 + 11) + 40 * d' ≤ R.locals
    omega
  obtain ⟨hcl0, hsl0⟩ := hc.2.2.2.2.1
  have hCB : CallB R s args own idx y.1 y.2.1 y.2.2.1 y.2.2.2 (Cond.code y.1 y.2.1 y.2.2.1 y.2.2.2 :: xk_wT w) (xk_rm d') 0 0 n := callB_of n hc.1.2.2.2.2 (xk_goodIn hg hy.1) rfl rfl rfl (hc.1.2.2.2.2 _ hy.2.1) (hc.1.2.2.2.2 _ hlink) hy.2.2.1 ⟨Nat.le_trans hdd hc.2.2.1.1, hrm⟩
  refine xk_on (va_runS (As := As) (rest := st) ⟨hc.1.1, hc.1.2.1, rfl, hc.1.2.2.2.1, hc.1.2.2.2.2⟩ (hM l H.size) ⟨hCB, hc.1.2.2.2.2 _ hstat⟩ (xk_pre hc.2.1 hP hD) rfl hn h.1 rfl (lv_room hst) hd ⟨by rw [hcl0]; exact Nat.zero_le _, by rw [hsl0]; exact Nat.zero_le _⟩) hS (fun q _ h => hF q h) hF (fun v τ H1 locs1 hp hP1 _ hS1 => ?_)
  exact kk v τ hp H1 locs1 ls hP1 (xk_D_of hD (fun k hk => xk_D_in hD hk)) hS1 h
end XI
end
