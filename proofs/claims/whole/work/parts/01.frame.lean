/-! THE FRAME. A world of fixed shape (cells numbered, contents in one memory), the machine's walk over it (xk_X), a method's contract over it (xk_M). -/
abbrev xk_St : Type := (Nat → Nat → Int32) × (Nat → Nat → Int64)
abbrev xk_FK : Type := Option Nat ⊕ Unit
abbrev xk_Sh : Type := (Nat × Nat) ⊕ (Nat × List xk_FK)
abbrev xk_G : Type := (Nat → Nat) × (Nat → ClassId)
def xk_fv (ad : Nat → Nat) (σ : xk_St) (k j : Nat) (f : xk_FK) : Value := match f with
  | .inl none => .int (σ.1 k j)
  | .inl (some r) => .ref (ad r)
  | .inr _ => .long (σ.2 k j)
def xk_fs (ad : Nat → Nat) (σ : xk_St) (k : Nat) : Nat → List xk_FK → List Value
  | _, [] => []
  | j, f :: r => xk_fv ad σ k j f :: xk_fs ad σ k (j + 1) r
def xk_ac (ad : Nat → Nat) (σ : xk_St) (k kd : Nat) : (Nat → Int32) ⊕ (Nat → Int64) ⊕ (Nat → UInt32) ⊕ (Nat → UInt64) ⊕ (Nat → Option Nat) := match kd with
  | 0 => .inl (σ.1 k)
  | 1 => .inl (σ.1 k)
  | b + 2 => .inr (.inr (.inr (.inr (fun u => some (ad (b + u))))))
def xk_cell (g : xk_G) (σ : xk_St) (k : Nat) (sh : xk_Sh) : va_E := match sh with
  | .inl (kd, n) => .inl (g.2 k, n, xk_ac g.1 σ k kd)
  | .inr (ci, fks) => .inr (ci, xk_fs g.1 σ k 0 fks)
def xk_go (g : xk_G) (σ : xk_St) : Nat → List xk_Sh → va_W
  | _, [] => []
  | k, sh :: r => (g.1 k, xk_cell g σ k sh) :: xk_go g σ (k + 1) r
def xk_wl (shp : List xk_Sh) (g : xk_G) (σ : xk_St) : va_W := xk_go g σ 0 shp
theorem xk_fs_at (ad : Nat → Nat) (σ : xk_St) (k : Nat) : ∀ (l : List xk_FK) (j i : Nat), (xk_fs ad σ k j l)[i]? = l[i]?.map (fun f => xk_fv ad σ k (j + i) f)
  | [], j, i => by simp [xk_fs]
  | f :: r, j, 0 => by simp [xk_fs]
  | f :: r, j, i + 1 => by
    rw [xk_fs, List.getElem?_cons_succ, List.getElem?_cons_succ, xk_fs_at ad σ k r (j + 1) i, show j + 1 + i = j + (i + 1) by omega]
theorem xk_go_at (g : xk_G) (σ : xk_St) : ∀ (l : List xk_Sh) (j i : Nat), (xk_go g σ j l)[i]? = l[i]?.map (fun sh => (g.1 (j + i), xk_cell g σ (j + i) sh))
  | [], j, i => by simp [xk_go]
  | f :: r, j, 0 => by simp [xk_go]
  | f :: r, j, i + 1 => by
    rw [xk_go, List.getElem?_cons_succ, List.getElem?_cons_succ, xk_go_at g σ r (j + 1) i, show j + 1 + i = j + (i + 1) by omega]
theorem xk_wl_at {shp : List xk_Sh} {g : xk_G} {σ : xk_St} {k : Nat} {sh : xk_Sh} (h : shp[k]? = some sh) : (xk_wl shp g σ)[k]? = some (g.1 k, xk_cell g σ k sh) := by
  rw [xk_wl, xk_go_at, h]; simp
theorem xk_wl_inv {shp : List xk_Sh} {g : xk_G} {σ : xk_St} {k : Nat} {q : Nat × va_E} (h : (xk_wl shp g σ)[k]? = some q) : ∃ sh, shp[k]? = some sh ∧ q = (g.1 k, xk_cell g σ k sh) := by
  rw [xk_wl, xk_go_at] at h
  cases hs : shp[k]? with
  | none => rw [hs] at h; simp at h
  | some sh => rw [hs] at h; simp at h; exact ⟨sh, rfl, h.symm⟩
theorem xk_cell_cong {g : xk_G} {σ τ : xk_St} {k : Nat} (h1 : τ.1 k = σ.1 k) (h2 : τ.2 k = σ.2 k) (sh : xk_Sh) : xk_cell g τ k sh = xk_cell g σ k sh := by
  have hf : ∀ (l : List xk_FK) (j : Nat), xk_fs g.1 τ k j l = xk_fs g.1 σ k j l := by
    intro l
    induction l with
    | nil => intro j; rfl
    | cons f r ih =>
      intro j
      rw [xk_fs, xk_fs, ih]
      congr 1
      rcases f with (_ | r) | _
      · simp only [xk_fv, h1]
      · rfl
      · simp only [xk_fv, h2]
  rcases sh with ⟨kd, n⟩ | ⟨ci, fks⟩
  · match kd with
    | 0 => simp only [xk_cell, xk_ac, h1]
    | 1 => simp only [xk_cell, xk_ac, h1]
    | b + 2 => rfl
  · simp only [xk_cell, hf]
theorem xk_wl_set {shp : List xk_Sh} {g : xk_G} {σ τ : xk_St} {k : Nat} {sh : xk_Sh} (h : shp[k]? = some sh) (ho : ∀ i, i ≠ k → τ.1 i = σ.1 i ∧ τ.2 i = σ.2 i) : (xk_wl shp g σ).set k (g.1 k, xk_cell g τ k sh) = xk_wl shp g τ := by
  apply List.ext_getElem?
  intro i
  by_cases hi : k = i
  · subst hi
    have hl : k < (xk_wl shp g σ).length := (List.getElem?_eq_some_iff.mp (xk_wl_at (g := g) (σ := σ) h)).1
    rw [List.getElem?_set_self hl, xk_wl_at h]
  · rw [List.getElem?_set_ne hi]
    cases hs : shp[i]? with
    | none =>
      rw [xk_wl, xk_wl, xk_go_at, xk_go_at, hs]; rfl
    | some sh' =>
      rw [xk_wl_at hs, xk_wl_at hs, xk_cell_cong (ho i (Ne.symm hi)).1 (ho i (Ne.symm hi)).2]
def xk_up (σ : xk_St) (k j : Nat) (v : Int32) : xk_St := (fun a b => if a = k ∧ b = j then v else σ.1 a b, σ.2)
def xk_upL (σ : xk_St) (k j : Nat) (v : Int64) : xk_St := (σ.1, fun a b => if a = k ∧ b = j then v else σ.2 a b)
def xk_row (σ : xk_St) (k : Nat) (f : Nat → Int32) : xk_St := (fun a => if a = k then f else σ.1 a, σ.2)
theorem xk_up_ne {σ : xk_St} {k j : Nat} {v : Int32} (i : Nat) (h : i ≠ k) : (xk_up σ k j v).1 i = σ.1 i ∧ (xk_up σ k j v).2 i = σ.2 i := ⟨by funext b; simp [xk_up, h], rfl⟩
theorem xk_upL_ne {σ : xk_St} {k j : Nat} {v : Int64} (i : Nat) (h : i ≠ k) : (xk_upL σ k j v).1 i = σ.1 i ∧ (xk_upL σ k j v).2 i = σ.2 i := ⟨rfl, by funext b; simp [xk_upL, h]⟩
theorem xk_row_ne {σ : xk_St} {k : Nat} {f : Nat → Int32} (i : Nat) (h : i ≠ k) : (xk_row σ k f).1 i = σ.1 i ∧ (xk_row σ k f).2 i = σ.2 i := ⟨by simp [xk_row, h], rfl⟩
theorem xk_fs_put {ad : Nat → Nat} {σ : xk_St} {k j : Nat} {fks : List xk_FK} (v : Int32) (hj : fks[j]? = some (.inl none)) : (xk_fs ad σ k 0 fks).set j (.int v) = xk_fs ad (xk_up σ k j v) k 0 fks := by
  apply List.ext_getElem?
  intro i
  have hl : j < (xk_fs ad σ k 0 fks).length := (List.getElem?_eq_some_iff.mp (show (xk_fs ad σ k 0 fks)[j]? = some _ by rw [xk_fs_at, hj]; rfl)).1
  by_cases hi : j = i
  · subst hi
    rw [List.getElem?_set_self hl, xk_fs_at, hj]
    simp [xk_fv, xk_up]
  · rw [List.getElem?_set_ne hi, xk_fs_at, xk_fs_at]
    cases fks[i]? with
    | none => rfl
    | some f =>
      rcases f with (_ | r) | _
      · simp [xk_fv, xk_up, Ne.symm hi]
      · rfl
      · rfl
theorem xk_fs_putL {ad : Nat → Nat} {σ : xk_St} {k j : Nat} {fks : List xk_FK} (v : Int64) (hj : fks[j]? = some (.inr ())) : (xk_fs ad σ k 0 fks).set j (.long v) = xk_fs ad (xk_upL σ k j v) k 0 fks := by
  apply List.ext_getElem?
  intro i
  have hl : j < (xk_fs ad σ k 0 fks).length := (List.getElem?_eq_some_iff.mp (show (xk_fs ad σ k 0 fks)[j]? = some _ by rw [xk_fs_at, hj]; rfl)).1
  by_cases hi : j = i
  · subst hi
    rw [List.getElem?_set_self hl, xk_fs_at, hj]
    simp [xk_fv, xk_upL]
  · rw [List.getElem?_set_ne hi, xk_fs_at, xk_fs_at]
    cases fks[i]? with
    | none => rfl
    | some f =>
      rcases f with (_ | r) | _
      · rfl
      · rfl
      · simp [xk_fv, xk_upL, Ne.symm hi]
/-- which cells a method may change -/
def xk_A (shp : List xk_Sh) (g : xk_G) (sz : Nat) : Nat → Prop := fun q => (∃ k, k < shp.length ∧ q = g.1 k) ∨ sz ≤ q
def xk_ty (rc : String) : Nat → FieldType
  | 0 => .int
  | 1 => .boolean
  | _ => .object rc
/-- a world, its fixed part: words, nest words, numbers, kinds, shapes, what rows of references hold, addresses -/
abbrev xk_w : Type := List Cond × List Cond × va_G × List vw_C × List xk_Sh × String × xk_G
abbrev xk_wT (w : xk_w) : List Cond := w.1
abbrev xk_wN (w : xk_w) : List Cond := w.2.1
abbrev xk_wD (w : xk_w) : va_G := w.2.2.1
abbrev xk_wC (w : xk_w) : List vw_C := w.2.2.2.1
abbrev xk_wS (w : xk_w) : List xk_Sh := w.2.2.2.2.1
abbrev xk_wR (w : xk_w) : String := w.2.2.2.2.2.1
abbrev xk_wG (w : xk_w) : xk_G := w.2.2.2.2.2.2
abbrev xk_wA (w : xk_w) (k : Nat) : Nat := (xk_wG w).1 k
def xk_nw : Cond → Bool
  | .fieldLinkNest .. => true
  | .methodLinkNest .. => true
  | _ => false
theorem xk_nw_tab {v : Cond} (h : xk_nw v = true) : v.onTables = true := by
  cases v <;> first | rfl | (simp [xk_nw] at h)
theorem xk_nw_warm {v : Cond} (h : xk_nw v = true) {s U : State} (hW : s.WarmedH U.vm) (hZ : va_Nw v s) : va_Nw v U := by
  cases v <;> first | exact va_Nw.warmF hW hZ | exact va_Nw.warmM hW hZ | (simp [xk_nw] at h)
def xk_ws (w : xk_w) (σ : xk_St) : va_W := xk_wl (xk_wS w) (xk_wG w) σ
def xk_KK (w : xk_w) (U : State) : Prop := va_K (xk_wD w) (xk_wC w) [] U ∧ (∀ (k kd n : Nat), (xk_wS w)[k]? = some (.inl (kd, n)) → ArrOfT U ((xk_wG w).2 k) (xk_ty (xk_wR w) kd) ∧ va_RA U ((xk_wG w).2 k) (xk_ty (xk_wR w) kd)) ∧ ∀ v ∈ xk_wN w, xk_nw v = true ∧ va_Nw v U
theorem xk_KK.moved {w : xk_w} {s U : State} (hW : s.WarmedH U.vm) (h : xk_KK w s) : xk_KK w U := ⟨va_K.moved hW.alike h.1, fun k kd n hk => ⟨arrOfT_moved hW.alike (h.2.1 k kd n hk).1, (h.2.1 k kd n hk).2.moved hW.alike⟩, fun v hv => ⟨(h.2.2 v hv).1, xk_nw_warm (h.2.2 v hv).1 hW (h.2.2 v hv).2⟩⟩
theorem xk_KK.same {w : xk_w} {u U : State} (hvm : u.vm = U.vm) (h : xk_KK w u) : xk_KK w U := by
  have ha : u.vm.Alike U.vm := by rw [← hvm]; exact Vm.Alike.refl u.vm
  exact ⟨va_K.moved ha h.1, fun k kd n hk => ⟨arrOfT_moved ha (h.2.1 k kd n hk).1, (h.2.1 k kd n hk).2.moved ha⟩, fun v hv => ⟨(h.2.2 v hv).1, va_Nw.same (xk_nw_tab (h.2.2 v hv).1) hvm (h.2.2 v hv).2⟩⟩
theorem xk_KK.k {w : xk_w} {U : State} (h : xk_KK w U) {k kd n : Nat} (hk : (xk_wS w)[k]? = some (.inl (kd, n))) : va_K (xk_wD w) (xk_wC w) [((xk_wG w).2 k, xk_ty (xk_wR w) kd)] U := ⟨h.1.1, fun j q hq => by
  match j, hq with
  | 0, hq => simp at hq; subst hq; exact h.2.1 k kd n hk⟩
theorem xk_KK.n {w : xk_w} {U : State} (h : xk_KK w U) {v : Cond} (hv : v ∈ xk_wN w) {A : Array Value} : v.before A U = true := va_Nw.use (xk_nw_tab (h.2.2 v hv).1) (h.2.2 v hv).2
/-- the machine's fixed part -/
abbrev xk_K : Type := Program × Launch × Env × Room × State × MethodId × Array Value × List Frame × Method × Code × (Nat → Prop) × Nat × Nat × (State → Prop)
abbrev xk_V (S : Type) : Type := va_G × List vw_C × (S → va_W)
abbrev xk_vw (w : xk_w) : xk_V xk_St := (xk_wD w, (xk_wC w), xk_ws w)
def xk_X {S : Type} (K : xk_K) (V : xk_V S) (σ : S) (pc : Nat) (lv : List (Nat × Value)) (st : List Value) : Prop := match K with
  | (p, l, e, R, s, m, args, below, meth, c, A, cells, slots, Q) => ∀ (H : Heap) (locs : List Loc) (ls : Array Slot), va_P V.1 V.2.1 (V.2.2 σ) H → va_D A (V.2.2 σ) → va_S A s.heap H locs → lv_has ls c.maxLocals lv → W p l e R s m args below meth c H locs cells slots Q (F0 m pc ls st)
/-- the code that runs -/
def xk_E (K : xk_K) (cc : ByteArray) (nL : Nat) : Prop := match K with
  | (p, _, _, _, _, _, _, _, _, c, _, _, _, _) => p.tables.exec = Jvm.exec ∧ c.code = cc ∧ c.maxLocals = nL
def xk_Qc (w : xk_w) (P : Option Value → xk_St → Prop) (A : Nat → Prop) : Array Value → State → Outcome → State → Prop := fun _ st oc t =>
  (∃ (v : Option Value) (τ : xk_St), oc = .returned v ∧ P v τ ∧ va_P (xk_wD w) (xk_wC w) (xk_ws w τ) t.heap) ∧ va_F A st t
/-- all that a method's walk stands on -/
def xk_H (K : xk_K) (w : xk_w) (cc : ByteArray) (nL : Nat) (own : String) (d : Nat) (ret : Option FieldType) (P : Option Value → xk_St → Prop) : Prop := match K with
  | (p, _, _, R, s, m, args, below, meth, c, A, cells, slots, Q) => CallFix p m c cc nL s args (xk_wT w) own ∧ xk_KK w s ∧ (d ≤ R.frames ∧ 40 * d ≤ R.locals) ∧ (meth.sig.returnType = ret ∧ meth.locks = false) ∧ (cells = 0 ∧ slots = 0) ∧ A = xk_A (xk_wS w) (xk_wG w) s.heap.size ∧ Q = MQ below (xk_Qc w P A) args s 0 0 A
def xk_rm (d : Nat) : Room := { frames := d, cells := 0, slots := 0, locals := 40 * d }
abbrev xk_Y : Type := MethodName × ByteArray × Nat × Option FieldType
def xk_M (w : xk_w) (d : Nat) (y : xk_Y) (args : List Value) (σ : xk_St) (P : Option Value → xk_St → Prop) : Prop := ∀ (l : Launch) (sz : Nat),
  Met l y.1 (.code y.1 y.2.1 y.2.2.1 y.2.2.2 :: xk_wT w) (xk_rm d) (va_Pc args (fun U => U.heap.size = sz ∧ va_P (xk_wD w) (xk_wC w) (xk_ws w σ) U.heap ∧ xk_KK w U ∧ va_D (fun _ => True) (xk_ws w σ))) (xk_Qc w P (xk_A (xk_wS w) (xk_wG w) sz)) 0 0 (xk_A (xk_wS w) (xk_wG w) sz)
theorem xk_D_of {w : xk_w} {σ τ : xk_St} {A B : Nat → Prop} (h : va_D A (xk_ws w σ)) (hB : ∀ k, k < (xk_wS w).length → B (xk_wA w k)) : va_D B (xk_ws w τ) := by
  refine ⟨fun i j p q hi hj hpq => ?_, fun k q hk => ?_⟩
  · obtain ⟨si, h1, rfl⟩ := xk_wl_inv hi
    obtain ⟨sj, h2, rfl⟩ := xk_wl_inv hj
    exact h.1 i j _ _ (xk_wl_at h1) (xk_wl_at h2) hpq
  · obtain ⟨sk, h1, rfl⟩ := xk_wl_inv hk
    exact hB k (List.getElem?_eq_some_iff.mp h1).1
theorem xk_D_in {w : xk_w} {σ : xk_St} {A : Nat → Prop} (h : va_D A (xk_ws w σ)) {k : Nat} (hk : k < (xk_wS w).length) : A (xk_wA w k) :=
  h.2 k _ (xk_wl_at (List.getElem?_eq_getElem hk))
theorem xk_enter {w : xk_w} {d : Nat} {y : xk_Y} {args : List Value} {σ : xk_St} {P : Option Value → xk_St → Prop} (hy : plainName y.1.cls = true) (hlen : (lg_sl args).length ≤ y.2.2.1)
    (body : ∀ K : xk_K, xk_E K y.2.1 y.2.2.1 → xk_H K w y.2.1 y.2.2.1 y.1.cls d y.2.2.2 P → xk_X K (xk_vw w) σ 0 (lv_args 0 args) []) : xk_M w d y args σ P := by
  intro l sz
  refine Met.ofW (cc := y.2.1) (maxL := y.2.2.1) (ret := y.2.2.2) hy rfl ?_
  intro p e s m vargs below meth c s₁ B hml hv
  obtain ⟨rfl, hsz, hP, hK, hD0⟩ := hv
  have hts := atoms_spec (ws := .code y.1 y.2.1 y.2.2.1 y.2.2.2 :: xk_wT w) B.pre
  have hown : s.vm.findClass y.1.cls = some m.cls := findClass_of_methodNamed B.named
  subst hsz
  have hD : va_D (xk_A (xk_wS w) (xk_wG w) s.heap.size) (xk_ws w σ) := xk_D_of hD0 (fun k hk => Or.inl ⟨k, hk, rfl⟩)
  have hl := lv_entry args (n := y.2.2.1) hlen
  rw [lg_entry_eq]
  have X := body (p, l, e, (headSpec (.code y.1 y.2.1 y.2.2.1 y.2.2.2 :: xk_wT w) (xk_rm d)).room, s, m, args.toArray, below, meth, c, xk_A (xk_wS w) (xk_wG w) s.heap.size, 0, 0, MQ below (xk_Qc w P (xk_A (xk_wS w) (xk_wG w) s.heap.size)) args.toArray s 0 0 (xk_A (xk_wS w) (xk_wG w) s.heap.size))
    ⟨B.exec, B.bytes, hml⟩ ⟨⟨B.exec, B.bytes, hml, hown, fun w' h => hts w' (List.mem_cons_of_mem _ h)⟩, hK, ⟨Nat.le_refl _, Nat.le_refl _⟩, ⟨B.returns, B.notSynchronized⟩, ⟨rfl, rfl⟩, rfl, rfl⟩
  exact X s.heap [] _ hP hD va_S.rf (hml.symm ▸ hl)
/-- an instruction and the next one's place -/
def xk_d (cc : ByteArray) (pc : Nat) (i : Instr) (n pc' : Nat) : Prop := decode cc pc = .ok (i, n) ∧ pc + n = pc'
/-- a branch: its two goals -/
def xk_b (cc : ByteArray) (pc : Nat) (i : Instr) (pc' : Nat) (off : Int) (tgt : Nat) : Prop := decode cc pc = .ok (i, 3) ∧ pc + 3 = pc' ∧ (pc : Int) + off = (tgt : Int)
section XR
variable {S : Type} {K : xk_K} {V : xk_V S} {σ : S} {cc : ByteArray} {nL pc pc' tgt : Nat} {off : Int} {lv lv' : List (Nat × Value)} {st : List Value}
theorem x_lv (ks : List Nat) (hl : lv_pick lv ks = lv') (k : xk_X K V σ pc lv' st) : xk_X K V σ pc lv st := by
  obtain ⟨p, l, e, R, s, m, args, below, meth, c, A, cells, slots, Q⟩ := K
  intro H locs ls hP hD hS h
  exact k H locs ls hP hD hS (lv_sub h ks hl)
theorem x_iadd {x y : Int32} (hc : xk_E K cc nL) (hd : xk_d cc pc .iadd 1 pc')  (k : xk_X K V σ pc' lv (.int (x + y) :: st)) : xk_X K V σ pc lv (.int y :: .int x :: st) := by
  obtain ⟨p, l, e, R, s, m, args, below, meth, c, A, cells, slots, Q⟩ := K
  obtain ⟨hd, rfl⟩ := hd
  intro H locs ls hP hD hS h
  exact lv_iadd hc.1 hc.2.1 hd  (k H locs ls hP hD hS h)
theorem x_isub {x y : Int32} (hc : xk_E K cc nL) (hd : xk_d cc pc .isub 1 pc')  (k : xk_X K V σ pc' lv (.int (x - y) :: st)) : xk_X K V σ pc lv (.int y :: .int x :: st) := by
  obtain ⟨p, l, e, R, s, m, args, below, meth, c, A, cells, slots, Q⟩ := K
  obtain ⟨hd, rfl⟩ := hd
  intro H locs ls hP hD hS h
  exact lv_isub hc.1 hc.2.1 hd  (k H locs ls hP hD hS h)
theorem x_imul {x y : Int32} (hc : xk_E K cc nL) (hd : xk_d cc pc .imul 1 pc')  (k : xk_X K V σ pc' lv (.int (x * y) :: st)) : xk_X K V σ pc lv (.int y :: .int x :: st) := by
  obtain ⟨p, l, e, R, s, m, args, below, meth, c, A, cells, slots, Q⟩ := K
  obtain ⟨hd, rfl⟩ := hd
  intro H locs ls hP hD hS h
  exact lv_imul hc.1 hc.2.1 hd  (k H locs ls hP hD hS h)
theorem x_iand {x y : Int32} (hc : xk_E K cc nL) (hd : xk_d cc pc .iand 1 pc')  (k : xk_X K V σ pc' lv (.int (x &&& y) :: st)) : xk_X K V σ pc lv (.int y :: .int x :: st) := by
  obtain ⟨p, l, e, R, s, m, args, below, meth, c, A, cells, slots, Q⟩ := K
  obtain ⟨hd, rfl⟩ := hd
  intro H locs ls hP hD hS h
  exact lv_iand hc.1 hc.2.1 hd  (k H locs ls hP hD hS h)
theorem x_ior {x y : Int32} (hc : xk_E K cc nL) (hd : xk_d cc pc .ior 1 pc')  (k : xk_X K V σ pc' lv (.int (x ||| y) :: st)) : xk_X K V σ pc lv (.int y :: .int x :: st) := by
  obtain ⟨p, l, e, R, s, m, args, below, meth, c, A, cells, slots, Q⟩ := K
  obtain ⟨hd, rfl⟩ := hd
  intro H locs ls hP hD hS h
  exact lv_ior hc.1 hc.2.1 hd  (k H locs ls hP hD hS h)
theorem x_ixor {x y : Int32} (hc : xk_E K cc nL) (hd : xk_d cc pc .ixor 1 pc')  (k : xk_X K V σ pc' lv (.int (x ^^^ y) :: st)) : xk_X K V σ pc lv (.int y :: .int x :: st) := by
  obtain ⟨p, l, e, R, s, m, args, below, meth, c, A, cells, slots, Q⟩ := K
  obtain ⟨hd, rfl⟩ := hd
  intro H locs ls hP hD hS h
  exact lv_ixor hc.1 hc.2.1 hd  (k H locs ls hP hD hS h)
theorem x_idiv {x y : Int32} (hc : xk_E K cc nL) (hd : xk_d cc pc .idiv 1 pc') (hne : ¬ y = 0) (k : xk_X K V σ pc' lv (.int (x / y) :: st)) : xk_X K V σ pc lv (.int y :: .int x :: st) := by
  obtain ⟨p, l, e, R, s, m, args, below, meth, c, A, cells, slots, Q⟩ := K
  obtain ⟨hd, rfl⟩ := hd
  intro H locs ls hP hD hS h
  exact lv_idiv hc.1 hc.2.1 hd hne (k H locs ls hP hD hS h)
theorem x_irem {x y : Int32} (hc : xk_E K cc nL) (hd : xk_d cc pc .irem 1 pc') (hne : ¬ y = 0) (k : xk_X K V σ pc' lv (.int (x - x / y * y) :: st)) : xk_X K V σ pc lv (.int y :: .int x :: st) := by
  obtain ⟨p, l, e, R, s, m, args, below, meth, c, A, cells, slots, Q⟩ := K
  obtain ⟨hd, rfl⟩ := hd
  intro H locs ls hP hD hS h
  exact lv_irem hc.1 hc.2.1 hd hne (k H locs ls hP hD hS h)
theorem x_ineg {x : Int32} (hc : xk_E K cc nL) (hd : xk_d cc pc .ineg 1 pc')  (k : xk_X K V σ pc' lv (.int (-x) :: st)) : xk_X K V σ pc lv (.int x :: st) := by
  obtain ⟨p, l, e, R, s, m, args, below, meth, c, A, cells, slots, Q⟩ := K
  obtain ⟨hd, rfl⟩ := hd
  intro H locs ls hP hD hS h
  exact lv_ineg hc.1 hc.2.1 hd  (k H locs ls hP hD hS h)
theorem x_land {x y : Int64} (hc : xk_E K cc nL) (hd : xk_d cc pc .land 1 pc')  (k : xk_X K V σ pc' lv (.long (x &&& y) :: st)) : xk_X K V σ pc lv (.long y :: .long x :: st) := by
  obtain ⟨p, l, e, R, s, m, args, below, meth, c, A, cells, slots, Q⟩ := K
  obtain ⟨hd, rfl⟩ := hd
  intro H locs ls hP hD hS h
  exact lv_land hc.1 hc.2.1 hd  (k H locs ls hP hD hS h)
theorem x_lor {x y : Int64} (hc : xk_E K cc nL) (hd : xk_d cc pc .lor 1 pc')  (k : xk_X K V σ pc' lv (.long (x ||| y) :: st)) : xk_X K V σ pc lv (.long y :: .long x :: st) := by
  obtain ⟨p, l, e, R, s, m, args, below, meth, c, A, cells, slots, Q⟩ := K
  obtain ⟨hd, rfl⟩ := hd
  intro H locs ls hP hD hS h
  exact lv_lor hc.1 hc.2.1 hd  (k H locs ls hP hD hS h)
theorem x_lxor {x y : Int64} (hc : xk_E K cc nL) (hd : xk_d cc pc .lxor 1 pc')  (k : xk_X K V σ pc' lv (.long (x ^^^ y) :: st)) : xk_X K V σ pc lv (.long y :: .long x :: st) := by
  obtain ⟨p, l, e, R, s, m, args, below, meth, c, A, cells, slots, Q⟩ := K
  obtain ⟨hd, rfl⟩ := hd
  intro H locs ls hP hD hS h
  exact lv_lxor hc.1 hc.2.1 hd  (k H locs ls hP hD hS h)
theorem x_lshl {x : Int64} {y : Int32} (hc : xk_E K cc nL) (hd : xk_d cc pc .lshl 1 pc')  (k : xk_X K V σ pc' lv (.long (x <<< (y.toInt64 &&& 63)) :: st)) : xk_X K V σ pc lv (.int y :: .long x :: st) := by
  obtain ⟨p, l, e, R, s, m, args, below, meth, c, A, cells, slots, Q⟩ := K
  obtain ⟨hd, rfl⟩ := hd
  intro H locs ls hP hD hS h
  exact lv_lshl hc.1 hc.2.1 hd rfl (k H locs ls hP hD hS h)
theorem x_lcmp {x y : Int64} (hc : xk_E K cc nL) (hd : xk_d cc pc .lcmp 1 pc')  (k : xk_X K V σ pc' lv (.int (lg_cmp x y) :: st)) : xk_X K V σ pc lv (.long y :: .long x :: st) := by
  obtain ⟨p, l, e, R, s, m, args, below, meth, c, A, cells, slots, Q⟩ := K
  obtain ⟨hd, rfl⟩ := hd
  intro H locs ls hP hD hS h
  exact W.lcmp hc.1 hc.2.1 hd  (k H locs ls hP hD hS h)
theorem x_dup {v : Value} (hc : xk_E K cc nL) (hd : xk_d cc pc .dup 1 pc') (hv : v.category = 1) (k : xk_X K V σ pc' lv (v :: v :: st)) : xk_X K V σ pc lv (v :: st) := by
  obtain ⟨p, l, e, R, s, m, args, below, meth, c, A, cells, slots, Q⟩ := K
  obtain ⟨hd, rfl⟩ := hd
  intro H locs ls hP hD hS h
  exact lv_dup hc.1 hc.2.1 hd hv (k H locs ls hP hD hS h)
theorem x_pop {v : Value} (hc : xk_E K cc nL) (hd : xk_d cc pc .pop 1 pc') (hv : v.category = 1) (k : xk_X K V σ pc' lv st) : xk_X K V σ pc lv (v :: st) := by
  obtain ⟨p, l, e, R, s, m, args, below, meth, c, A, cells, slots, Q⟩ := K
  obtain ⟨hd, rfl⟩ := hd
  intro H locs ls hP hD hS h
  exact lv_pop hc.1 hc.2.1 hd hv (k H locs ls hP hD hS h)
theorem x_dup2 {v u : Value} (hc : xk_E K cc nL) (hd : xk_d cc pc .dup2 1 pc') (hv : v.category = 1) (hu : u.category = 1) (k : xk_X K V σ pc' lv (v :: u :: v :: u :: st)) : xk_X K V σ pc lv (v :: u :: st) := by
  obtain ⟨p, l, e, R, s, m, args, below, meth, c, A, cells, slots, Q⟩ := K
  obtain ⟨hd, rfl⟩ := hd
  intro H locs ls hP hD hS h
  exact lv_dup2_11 hc.1 hc.2.1 hd hv hu (k H locs ls hP hD hS h)
theorem x_dup_x1 {v u : Value} (hc : xk_E K cc nL) (hd : xk_d cc pc .dup_x1 1 pc') (hv : v.category = 1) (hu : u.category = 1) (k : xk_X K V σ pc' lv (v :: u :: v :: st)) : xk_X K V σ pc lv (v :: u :: st) := by
  obtain ⟨p, l, e, R, s, m, args, below, meth, c, A, cells, slots, Q⟩ := K
  obtain ⟨hd, rfl⟩ := hd
  intro H locs ls hP hD hS h
  exact lv_dup_x1 hc.1 hc.2.1 hd hv hu (k H locs ls hP hD hS h)
theorem x_dup_x2 {v u t : Value} (hc : xk_E K cc nL) (hd : xk_d cc pc .dup_x2 1 pc') (hv : v.category = 1) (hu : u.category = 1) (ht : t.category = 1) (k : xk_X K V σ pc' lv (v :: u :: t :: v :: st)) : xk_X K V σ pc lv (v :: u :: t :: st) := by
  obtain ⟨p, l, e, R, s, m, args, below, meth, c, A, cells, slots, Q⟩ := K
  obtain ⟨hd, rfl⟩ := hd
  intro H locs ls hP hD hS h
  exact lv_dup_x2 hc.1 hc.2.1 hd hv hu ht (k H locs ls hP hD hS h)
theorem x_iconst {n : Int} (v : Int32) (hc : xk_E K cc nL) (hd : xk_d cc pc (.iconst n) 1 pc') (hv : Int32.ofInt n = v) (k : xk_X K V σ pc' lv (.int v :: st)) : xk_X K V σ pc lv st := by
  obtain ⟨p, l, e, R, s, m, args, below, meth, c, A, cells, slots, Q⟩ := K
  obtain ⟨hd, rfl⟩ := hd
  intro H locs ls hP hD hS h
  exact lv_iconst hc.1 hc.2.1 hd hv (k H locs ls hP hD hS h)
theorem x_bipush {n : Int} (v : Int32) (hc : xk_E K cc nL) (hd : xk_d cc pc (.bipush n) 2 pc') (hv : (Int8.ofInt n).toInt32 = v) (k : xk_X K V σ pc' lv (.int v :: st)) : xk_X K V σ pc lv st := by
  obtain ⟨p, l, e, R, s, m, args, below, meth, c, A, cells, slots, Q⟩ := K
  obtain ⟨hd, rfl⟩ := hd
  intro H locs ls hP hD hS h
  exact lv_bipush hc.1 hc.2.1 hd hv (k H locs ls hP hD hS h)
theorem x_sipush {n : Int} (v : Int32) (hc : xk_E K cc nL) (hd : xk_d cc pc (.sipush n) 3 pc') (hv : (Int16.ofInt n).toInt32 = v) (k : xk_X K V σ pc' lv (.int v :: st)) : xk_X K V σ pc lv st := by
  obtain ⟨p, l, e, R, s, m, args, below, meth, c, A, cells, slots, Q⟩ := K
  obtain ⟨hd, rfl⟩ := hd
  intro H locs ls hP hD hS h
  exact lv_sipush hc.1 hc.2.1 hd hv (k H locs ls hP hD hS h)
theorem x_lconst {n : Fin 2} (v : Int64) (hc : xk_E K cc nL) (hd : xk_d cc pc (.lconst n) 1 pc') (hv : Int64.ofNat (n : Nat) = v) (k : xk_X K V σ pc' lv (.long v :: st)) : xk_X K V σ pc lv st := by
  obtain ⟨p, l, e, R, s, m, args, below, meth, c, A, cells, slots, Q⟩ := K
  obtain ⟨hd, rfl⟩ := hd
  intro H locs ls hP hD hS h
  exact lv_lconst hc.1 hc.2.1 hd hv (k H locs ls hP hD hS h)
theorem x_iload_n {n : Fin 4} {x : Int32} (hc : xk_E K cc nL) (hd : xk_d cc pc (.iload_n n) 1 pc') (q : Nat) (hq : lv[q]? = some ((n : Nat), .int x)) (k : xk_X K V σ pc' lv (.int x :: st)) : xk_X K V σ pc lv st := by
  obtain ⟨p, l, e, R, s, m, args, below, meth, c, A, cells, slots, Q⟩ := K
  obtain ⟨hd, rfl⟩ := hd
  intro H locs ls hP hD hS h
  exact lv_iload_n hc.1 hc.2.1 hd rfl (lv_at h q hq) (k H locs ls hP hD hS h)
theorem x_iload {i : Nat} {x : Int32} (hc : xk_E K cc nL) (hd : xk_d cc pc (.iload i) 2 pc') (q : Nat) (hq : lv[q]? = some (i, .int x)) (k : xk_X K V σ pc' lv (.int x :: st)) : xk_X K V σ pc lv st := by
  obtain ⟨p, l, e, R, s, m, args, below, meth, c, A, cells, slots, Q⟩ := K
  obtain ⟨hd, rfl⟩ := hd
  intro H locs ls hP hD hS h
  exact lv_iload hc.1 hc.2.1 hd (lv_at h q hq) (k H locs ls hP hD hS h)
theorem x_istore_n {n : Fin 4} {i : Nat} {x : Int32} (lv' : List (Nat × Value)) (hc : xk_E K cc nL) (hd : xk_d cc pc (.istore_n n) 1 pc') (hi : (n : Nat) = i) (hn : i < nL) (hl : (i, Value.int x) :: lv.filter (fun q => !(q.1 == i) && !(q.1 + 1 == i && q.2.category == 2)) = lv') (k : xk_X K V σ pc' lv' st) : xk_X K V σ pc lv (.int x :: st) := by
  obtain ⟨p, l, e, R, s, m, args, below, meth, c, A, cells, slots, Q⟩ := K
  obtain ⟨hd, rfl⟩ := hd
  intro H locs ls hP hD hS h
  exact lv_istore_n hc.1 hc.2.1 hd hi h (hc.2.2.symm ▸ hn) hl (fun ls' h' => k H locs ls' hP hD hS h')
theorem x_istore {i : Nat} {x : Int32} (lv' : List (Nat × Value)) (hc : xk_E K cc nL) (hd : xk_d cc pc (.istore i) 2 pc') (hn : i < nL) (hl : (i, Value.int x) :: lv.filter (fun q => !(q.1 == i) && !(q.1 + 1 == i && q.2.category == 2)) = lv') (k : xk_X K V σ pc' lv' st) : xk_X K V σ pc lv (.int x :: st) := by
  obtain ⟨p, l, e, R, s, m, args, below, meth, c, A, cells, slots, Q⟩ := K
  obtain ⟨hd, rfl⟩ := hd
  intro H locs ls hP hD hS h
  exact lv_istore hc.1 hc.2.1 hd h (hc.2.2.symm ▸ hn) hl (fun ls' h' => k H locs ls' hP hD hS h')
theorem x_lload_n {n : Fin 4} {x : Int64} (hc : xk_E K cc nL) (hd : xk_d cc pc (.lload_n n) 1 pc') (q : Nat) (hq : lv[q]? = some ((n : Nat), .long x)) (k : xk_X K V σ pc' lv (.long x :: st)) : xk_X K V σ pc lv st := by
  obtain ⟨p, l, e, R, s, m, args, below, meth, c, A, cells, slots, Q⟩ := K
  obtain ⟨hd, rfl⟩ := hd
  intro H locs ls hP hD hS h
  exact lv_lload_n hc.1 hc.2.1 hd rfl (lv_at h q hq) (k H locs ls hP hD hS h)
theorem x_lload {i : Nat} {x : Int64} (hc : xk_E K cc nL) (hd : xk_d cc pc (.lload i) 2 pc') (q : Nat) (hq : lv[q]? = some (i, .long x)) (k : xk_X K V σ pc' lv (.long x :: st)) : xk_X K V σ pc lv st := by
  obtain ⟨p, l, e, R, s, m, args, below, meth, c, A, cells, slots, Q⟩ := K
  obtain ⟨hd, rfl⟩ := hd
  intro H locs ls hP hD hS h
  exact lv_lload hc.1 hc.2.1 hd (lv_at h q hq) (k H locs ls hP hD hS h)
theorem x_lstore_n {n : Fin 4} {i : Nat} {x : Int64} (lv' : List (Nat × Value)) (hc : xk_E K cc nL) (hd : xk_d cc pc (.lstore_n n) 1 pc') (hi : (n : Nat) = i) (hn : i + 1 < nL) (hl : (i, Value.long x) :: lv.filter (fun q => !(q.1 == i) && (!(q.1 == i + 1) && !(q.1 + 1 == i && q.2.category == 2))) = lv') (k : xk_X K V σ pc' lv' st) : xk_X K V σ pc lv (.long x :: st) := by
  obtain ⟨p, l, e, R, s, m, args, below, meth, c, A, cells, slots, Q⟩ := K
  obtain ⟨hd, rfl⟩ := hd
  intro H locs ls hP hD hS h
  exact lv_lstore_n hc.1 hc.2.1 hd hi h (hc.2.2.symm ▸ hn) hl (fun ls' h' => k H locs ls' hP hD hS h')
theorem x_lstore {i : Nat} {x : Int64} (lv' : List (Nat × Value)) (hc : xk_E K cc nL) (hd : xk_d cc pc (.lstore i) 2 pc') (hn : i + 1 < nL) (hl : (i, Value.long x) :: lv.filter (fun q => !(q.1 == i) && (!(q.1 == i + 1) && !(q.1 + 1 == i && q.2.category == 2))) = lv') (k : xk_X K V σ pc' lv' st) : xk_X K V σ pc lv (.long x :: st) := by
  obtain ⟨p, l, e, R, s, m, args, below, meth, c, A, cells, slots, Q⟩ := K
  obtain ⟨hd, rfl⟩ := hd
  intro H locs ls hP hD hS h
  exact lv_lstore hc.1 hc.2.1 hd h (hc.2.2.symm ▸ hn) hl (fun ls' h' => k H locs ls' hP hD hS h')
theorem x_aload_n {n : Fin 4} {x : Nat} (hc : xk_E K cc nL) (hd : xk_d cc pc (.aload_n n) 1 pc') (q : Nat) (hq : lv[q]? = some ((n : Nat), .ref x)) (k : xk_X K V σ pc' lv (.ref x :: st)) : xk_X K V σ pc lv st := by
  obtain ⟨p, l, e, R, s, m, args, below, meth, c, A, cells, slots, Q⟩ := K
  obtain ⟨hd, rfl⟩ := hd
  intro H locs ls hP hD hS h
  exact lv_aload_n hc.1 hc.2.1 hd rfl (lv_at h q hq) (k H locs ls hP hD hS h)
theorem x_aload {i : Nat} {x : Nat} (hc : xk_E K cc nL) (hd : xk_d cc pc (.aload i) 2 pc') (q : Nat) (hq : lv[q]? = some (i, .ref x)) (k : xk_X K V σ pc' lv (.ref x :: st)) : xk_X K V σ pc lv st := by
  obtain ⟨p, l, e, R, s, m, args, below, meth, c, A, cells, slots, Q⟩ := K
  obtain ⟨hd, rfl⟩ := hd
  intro H locs ls hP hD hS h
  exact lv_aload hc.1 hc.2.1 hd (lv_at h q hq) (k H locs ls hP hD hS h)
theorem x_astore_n {n : Fin 4} {i : Nat} {x : Nat} (lv' : List (Nat × Value)) (hc : xk_E K cc nL) (hd : xk_d cc pc (.astore_n n) 1 pc') (hi : (n : Nat) = i) (hn : i < nL) (hl : (i, Value.ref x) :: lv.filter (fun q => !(q.1 == i) && !(q.1 + 1 == i && q.2.category == 2)) = lv') (k : xk_X K V σ pc' lv' st) : xk_X K V σ pc lv (.ref x :: st) := by
  obtain ⟨p, l, e, R, s, m, args, below, meth, c, A, cells, slots, Q⟩ := K
  obtain ⟨hd, rfl⟩ := hd
  intro H locs ls hP hD hS h
  exact lv_astore_n hc.1 hc.2.1 hd hi h (hc.2.2.symm ▸ hn) hl (fun ls' h' => k H locs ls' hP hD hS h')
theorem x_astore {i : Nat} {x : Nat} (lv' : List (Nat × Value)) (hc : xk_E K cc nL) (hd : xk_d cc pc (.astore i) 2 pc') (hn : i < nL) (hl : (i, Value.ref x) :: lv.filter (fun q => !(q.1 == i) && !(q.1 + 1 == i && q.2.category == 2)) = lv') (k : xk_X K V σ pc' lv' st) : xk_X K V σ pc lv (.ref x :: st) := by
  obtain ⟨p, l, e, R, s, m, args, below, meth, c, A, cells, slots, Q⟩ := K
  obtain ⟨hd, rfl⟩ := hd
  intro H locs ls hP hD hS h
  exact lv_astore hc.1 hc.2.1 hd h (hc.2.2.symm ▸ hn) hl (fun ls' h' => k H locs ls' hP hD hS h')
theorem x_iinc {i : Nat} {n : Int} {x : Int32} (q : Nat) (v : Int32) (lv' : List (Nat × Value)) (hc : xk_E K cc nL) (hd : xk_d cc pc (.iinc i n) 3 pc') (hq : lv[q]? = some (i, .int x)) (hv : x + Int32.ofInt n = v) (hn : i < nL) (hl : (i, Value.int v) :: lv.filter (fun q => !(q.1 == i) && !(q.1 + 1 == i && q.2.category == 2)) = lv') (k : xk_X K V σ pc' lv' st) : xk_X K V σ pc lv st := by
  obtain ⟨p, l, e, R, s, m, args, below, meth, c, A, cells, slots, Q⟩ := K
  obtain ⟨hd, rfl⟩ := hd
  intro H locs ls hP hD hS h
  exact lv_iinc hc.1 hc.2.1 hd h hq hv (hc.2.2.symm ▸ hn) hl (fun ls' h' => k H locs ls' hP hD hS h')
theorem x_if_eq {x : Int32} (hc : xk_E K cc nL) (hd : xk_b cc pc (.ifCond .eq off) pc' off tgt) (kt : x = 0 → xk_X K V σ tgt lv st) (kf : ¬ x = 0 → xk_X K V σ pc' lv st) : xk_X K V σ pc lv (.int x :: st) := by
  obtain ⟨p, l, e, R, s, m, args, below, meth, c, A, cells, slots, Q⟩ := K
  obtain ⟨hd, rfl, ht⟩ := hd
  intro H locs ls hP hD hS h
  exact lv_if_eq hc.1 hc.2.1 hd ht (fun q => kt q H locs ls hP hD hS h) (fun q => kf q H locs ls hP hD hS h)
theorem x_if_ne {x : Int32} (hc : xk_E K cc nL) (hd : xk_b cc pc (.ifCond .ne off) pc' off tgt) (kt : ¬ x = 0 → xk_X K V σ tgt lv st) (kf : x = 0 → xk_X K V σ pc' lv st) : xk_X K V σ pc lv (.int x :: st) := by
  obtain ⟨p, l, e, R, s, m, args, below, meth, c, A, cells, slots, Q⟩ := K
  obtain ⟨hd, rfl, ht⟩ := hd
  intro H locs ls hP hD hS h
  exact lv_if_ne hc.1 hc.2.1 hd ht (fun q => kt q H locs ls hP hD hS h) (fun q => kf q H locs ls hP hD hS h)
theorem x_if_lt {x : Int32} (hc : xk_E K cc nL) (hd : xk_b cc pc (.ifCond .lt off) pc' off tgt) (kt : x < 0 → xk_X K V σ tgt lv st) (kf : ¬ x < 0 → xk_X K V σ pc' lv st) : xk_X K V σ pc lv (.int x :: st) := by
  obtain ⟨p, l, e, R, s, m, args, below, meth, c, A, cells, slots, Q⟩ := K
  obtain ⟨hd, rfl, ht⟩ := hd
  intro H locs ls hP hD hS h
  exact lv_if_lt hc.1 hc.2.1 hd ht (fun q => kt q H locs ls hP hD hS h) (fun q => kf q H locs ls hP hD hS h)
theorem x_if_ge {x : Int32} (hc : xk_E K cc nL) (hd : xk_b cc pc (.ifCond .ge off) pc' off tgt) (kt : 0 ≤ x → xk_X K V σ tgt lv st) (kf : ¬ 0 ≤ x → xk_X K V σ pc' lv st) : xk_X K V σ pc lv (.int x :: st) := by
  obtain ⟨p, l, e, R, s, m, args, below, meth, c, A, cells, slots, Q⟩ := K
  obtain ⟨hd, rfl, ht⟩ := hd
  intro H locs ls hP hD hS h
  exact lv_if_ge hc.1 hc.2.1 hd ht (fun q => kt q H locs ls hP hD hS h) (fun q => kf q H locs ls hP hD hS h)
theorem x_if_gt {x : Int32} (hc : xk_E K cc nL) (hd : xk_b cc pc (.ifCond .gt off) pc' off tgt) (kt : 0 < x → xk_X K V σ tgt lv st) (kf : ¬ 0 < x → xk_X K V σ pc' lv st) : xk_X K V σ pc lv (.int x :: st) := by
  obtain ⟨p, l, e, R, s, m, args, below, meth, c, A, cells, slots, Q⟩ := K
  obtain ⟨hd, rfl, ht⟩ := hd
  intro H locs ls hP hD hS h
  exact lv_if_gt hc.1 hc.2.1 hd ht (fun q => kt q H locs ls hP hD hS h) (fun q => kf q H locs ls hP hD hS h)
theorem x_if_le {x : Int32} (hc : xk_E K cc nL) (hd : xk_b cc pc (.ifCond .le off) pc' off tgt) (kt : x ≤ 0 → xk_X K V σ tgt lv st) (kf : ¬ x ≤ 0 → xk_X K V σ pc' lv st) : xk_X K V σ pc lv (.int x :: st) := by
  obtain ⟨p, l, e, R, s, m, args, below, meth, c, A, cells, slots, Q⟩ := K
  obtain ⟨hd, rfl, ht⟩ := hd
  intro H locs ls hP hD hS h
  exact lv_if_le hc.1 hc.2.1 hd ht (fun q => kt q H locs ls hP hD hS h) (fun q => kf q H locs ls hP hD hS h)
theorem x_icmp_eq {x y : Int32} (hc : xk_E K cc nL) (hd : xk_b cc pc (.if_icmp .eq off) pc' off tgt) (kt : x = y → xk_X K V σ tgt lv st) (kf : ¬ x = y → xk_X K V σ pc' lv st) : xk_X K V σ pc lv (.int y :: .int x :: st) := by
  obtain ⟨p, l, e, R, s, m, args, below, meth, c, A, cells, slots, Q⟩ := K
  obtain ⟨hd, rfl, ht⟩ := hd
  intro H locs ls hP hD hS h
  exact lv_icmp_eq hc.1 hc.2.1 hd ht (fun q => kt q H locs ls hP hD hS h) (fun q => kf q H locs ls hP hD hS h)
theorem x_icmp_ne {x y : Int32} (hc : xk_E K cc nL) (hd : xk_b cc pc (.if_icmp .ne off) pc' off tgt) (kt : ¬ x = y → xk_X K V σ tgt lv st) (kf : x = y → xk_X K V σ pc' lv st) : xk_X K V σ pc lv (.int y :: .int x :: st) := by
  obtain ⟨p, l, e, R, s, m, args, below, meth, c, A, cells, slots, Q⟩ := K
  obtain ⟨hd, rfl, ht⟩ := hd
  intro H locs ls hP hD hS h
  exact lv_icmp_ne hc.1 hc.2.1 hd ht (fun q => kt q H locs ls hP hD hS h) (fun q => kf q H locs ls hP hD hS h)
theorem x_icmp_lt {x y : Int32} (hc : xk_E K cc nL) (hd : xk_b cc pc (.if_icmp .lt off) pc' off tgt) (kt : x < y → xk_X K V σ tgt lv st) (kf : ¬ x < y → xk_X K V σ pc' lv st) : xk_X K V σ pc lv (.int y :: .int x :: st) := by
  obtain ⟨p, l, e, R, s, m, args, below, meth, c, A, cells, slots, Q⟩ := K
  obtain ⟨hd, rfl, ht⟩ := hd
  intro H locs ls hP hD hS h
  exact lv_icmp_lt hc.1 hc.2.1 hd ht (fun q => kt q H locs ls hP hD hS h) (fun q => kf q H locs ls hP hD hS h)
theorem x_icmp_ge {x y : Int32} (hc : xk_E K cc nL) (hd : xk_b cc pc (.if_icmp .ge off) pc' off tgt) (kt : y ≤ x → xk_X K V σ tgt lv st) (kf : ¬ y ≤ x → xk_X K V σ pc' lv st) : xk_X K V σ pc lv (.int y :: .int x :: st) := by
  obtain ⟨p, l, e, R, s, m, args, below, meth, c, A, cells, slots, Q⟩ := K
  obtain ⟨hd, rfl, ht⟩ := hd
  intro H locs ls hP hD hS h
  exact lv_icmp_ge hc.1 hc.2.1 hd ht (fun q => kt q H locs ls hP hD hS h) (fun q => kf q H locs ls hP hD hS h)
theorem x_icmp_gt {x y : Int32} (hc : xk_E K cc nL) (hd : xk_b cc pc (.if_icmp .gt off) pc' off tgt) (kt : y < x → xk_X K V σ tgt lv st) (kf : ¬ y < x → xk_X K V σ pc' lv st) : xk_X K V σ pc lv (.int y :: .int x :: st) := by
  obtain ⟨p, l, e, R, s, m, args, below, meth, c, A, cells, slots, Q⟩ := K
  obtain ⟨hd, rfl, ht⟩ := hd
  intro H locs ls hP hD hS h
  exact lv_icmp_gt hc.1 hc.2.1 hd ht (fun q => kt q H locs ls hP hD hS h) (fun q => kf q H locs ls hP hD hS h)
theorem x_icmp_le {x y : Int32} (hc : xk_E K cc nL) (hd : xk_b cc pc (.if_icmp .le off) pc' off tgt) (kt : x ≤ y → xk_X K V σ tgt lv st) (kf : ¬ x ≤ y → xk_X K V σ pc' lv st) : xk_X K V σ pc lv (.int y :: .int x :: st) := by
  obtain ⟨p, l, e, R, s, m, args, below, meth, c, A, cells, slots, Q⟩ := K
  obtain ⟨hd, rfl, ht⟩ := hd
  intro H locs ls hP hD hS h
  exact lv_icmp_le hc.1 hc.2.1 hd ht (fun q => kt q H locs ls hP hD hS h) (fun q => kf q H locs ls hP hD hS h)
theorem x_goto (hc : xk_E K cc nL) (hd : xk_b cc pc (.goto off) pc' off tgt) (k : xk_X K V σ tgt lv st) : xk_X K V σ pc lv st := by
  obtain ⟨p, l, e, R, s, m, args, below, meth, c, A, cells, slots, Q⟩ := K
  obtain ⟨hd, rfl, ht⟩ := hd
  intro H locs ls hP hD hS h
  exact lv_goto hc.1 hc.2.1 hd ht (k H locs ls hP hD hS h)
end XR

