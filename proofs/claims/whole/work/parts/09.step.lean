/-! ===== what is outside the world and only read; a method's start and end ===== -/
def gtbl : List Cond := lw_tbl.filter goodWord
theorem gtbl_in {w : Cond} (h : w ∈ lw_tbl) (hg : goodWord w = true) : w ∈ gtbl := List.mem_filter.mpr ⟨h, hg⟩
theorem gtbl_good {w : Cond} (h : w ∈ gtbl) : (w.onTables && w.keeps) = true ∨ ∃ ty, w = .arrayClass ty := good_of_word (List.mem_filter.mp h).2
def xNest : List Cond := [.methodLinkNest RX0 66 yX3_isIn "TornLayers", .methodLinkNest RX2 112 yX3_isCluster "TornLayers", .methodLinkNest RX2 162 yX3_isIn "TornLayers", .fieldLinkNest "TornLayers$Tape" 50 "TornLayers" "NUMBERS_OF" "[I" "TornLayers"]
/-- addresses; the byte array of the text; the classes of cells; the class of int arrays; which cells may change; the script's length; what static array and script hold -/
abbrev mW : Type := (mRef → Nat) × Nat × va_G × ClassId × (Nat → Prop) × Nat × (Nat → Int32) × (Nat → Int32)
def Ext (w : mW) (U : State) (H : Heap) : Prop :=
  va_Z "TornLayers" "NUMBERS_OF" "[I" (.ref (w.1 (.inr 20))) w.2.2.2.2.1 U H ∧ va_T .int (w.1 (.inr 20)) 7 (fun j => .int (w.2.2.2.2.2.2.1 j)) w.2.2.2.2.1 U H ∧
  vk_R "TornLayers$Tape" 42 "wsdrgmf" (w.1 (.inr 21)) U ∧ vk_S 1 [7] [[119, 115, 100, 114, 103, 109, 102]] (fun _ => w.1 (.inr 21)) (fun _ => w.2.1) w.2.2.2.2.1 U H ∧
  va_Z "java/lang/String" "COMPACT_STRINGS" "Z" (.int 1) w.2.2.2.2.1 U H ∧ va_X (w.1 (.inr 22)) w.2.2.2.2.2.1 w.2.2.2.2.2.2.2 U H ∧ w.1 (.inr 22) < H.size ∧ ¬ w.2.2.2.2.1 (w.1 (.inr 22)) ∧ ∀ q ∈ xNest, va_Nw q U
theorem Ext.to {w : mW} {s U : State} {H : Heap} {locs : List Loc} (h : Ext w s s.heap) (hS : va_S w.2.2.2.2.1 s.heap H locs) (hU : U.heap = H) (hW : s.WarmedH U.vm) : Ext w U U.heap := by
  obtain ⟨h1, h2, h3, h4, h5, h6, h7, h8, h9⟩ := h
  subst hU
  have hk := hS.2.1
  refine ⟨(h1.kept hk).moved hW.alike, va_T.moved hW.alike (h2.kept hk), h3.warm hW, (h4.kept hk).moved hW.alike, (h5.kept hk).moved hW.alike, (h6.kept (hk _ h7 h8)).moved hW.alike, Nat.lt_of_lt_of_le h7 hS.1, h8, fun q hq => ?_⟩
  have hq2 := h9 q hq
  simp only [xNest, List.mem_cons, List.not_mem_nil, or_false] at hq
  rcases hq with rfl | rfl | rfl | rfl
  · exact va_Nw.warmM hW hq2
  · exact va_Nw.warmM hW hq2
  · exact va_Nw.warmM hW hq2
  · exact va_Nw.warmF hW hq2
theorem Ext.same {w : mW} {s U : State} (h : Ext w s s.heap) (hU : U.heap = s.heap) (hv : s.vm = U.vm) : Ext w U U.heap := by
  obtain ⟨h1, h2, h3, h4, h5, h6, h7, h8, h9⟩ := h
  have ha : s.vm.Alike U.vm := by rw [hv]; exact Vm.Alike.refl _
  rw [hU]
  refine ⟨h1.moved ha, va_T.moved ha h2, h3.same hv.symm, h4.moved ha, h5.moved ha, h6.moved ha, h7, h8, fun q hq => ?_⟩
  have hq2 := h9 q hq
  simp only [xNest, List.mem_cons, List.not_mem_nil, or_false] at hq
  rcases hq with rfl | rfl | rfl | rfl <;> exact va_Nw.same rfl hv hq2
def Sm (w : mW) (h : mH) : Prop := h (.inr 20) = w.2.2.2.2.2.2.1 ∧ h (.inr 22) = w.2.2.2.2.2.2.2
/-- the heap H is the world h -/
def Rl (w : mW) (s : State) (h : mH) (H : Heap) (locs : List Loc) : Prop := va_P w.2.2.1 vwCl (wl w.1 w.2.2.2.1 h) H ∧ va_D w.2.2.2.2.1 (wl w.1 w.2.2.2.1 h) ∧ va_S w.2.2.2.2.1 s.heap H locs ∧ Sm w h
def mPre (w : mW) (h : mH) (U : State) : Prop := va_P w.2.2.1 vwCl (wl w.1 w.2.2.2.1 h) U.heap ∧ va_K w.2.2.1 vwCl [(w.2.2.2.1, .int)] U ∧ va_D w.2.2.2.2.1 (wl w.1 w.2.2.2.1 h) ∧ Sm w h ∧ Ext w U U.heap
def mQ (w : mW) (post : mP) : Array Value → State → Outcome → State → Prop := fun _ st oc t =>
  (∃ (v : Option mV) (h' : mH), oc = .returned (v.map (tv w.1)) ∧ post v h' ∧ va_P w.2.2.1 vwCl (wl w.1 w.2.2.2.1 h') t.heap ∧ va_D w.2.2.2.2.1 (wl w.1 w.2.2.2.1 h') ∧ Sm w h') ∧ va_F w.2.2.2.2.1 st t
def rmD (d : Nat) : Room := { frames := d, cells := 0, slots := 0, locals := 41 * d }
def wsY (y : Nat) : List Cond := .code (mth y).1 (mth y).2.1 (mth y).2.2.1 (mth y).2.2.2.1 :: gtbl
def MetY (l : Launch) (w : mW) (d y : Nat) (as : List mV) (h : mH) (post : mP) : Prop := Met l (mth y).1 (wsY y) (rmD d) (va_Pc (as.map (tv w.1)) (mPre w h)) (mQ w post) 0 0 w.2.2.2.2.1
theorem mPre_blind (w : mW) (h : mH) (av : List Value) : FrameBlind (va_Pc av (mPre w h)) := by
  intro a U g mk hp
  obtain ⟨e, h1, h2, h3, h4, h5⟩ := hp
  exact ⟨e, h1, va_K.moved (u := U) (U := U.calling g mk a) (Vm.Alike.refl U.vm) h2, h3, h4, h5.same rfl rfl⟩
/-! ===== what the links of a class must be ===== -/
def clsOk (ci : Nat) : Prop := ∃ (C : String) (T : u_T) (N : Nat) (ty : Nat → FieldType), vwCl[ci]? = some (C, T, N) ∧ (∀ w ∈ u_ws C T N, w ∈ gtbl) ∧ (∀ k, k < N → parseFieldDescriptor (T k).2.2.1 = some (ty k)) ∧ (∀ a, a < N → ∀ b, b < N → a ≠ b → (T a).2.1 ≠ (T b).2.1)
/-- fld: get k; put of a boolean k + 1000, of an int k + 2000 -/
def fldOk (own : String) (i ci k : Nat) : Prop := ∃ (C : String) (T : u_T) (N : Nat), vwCl[ci]? = some (C, T, N) ∧ (k % 1000) < N ∧ Cond.fieldLink own i (T (k % 1000)).1 (T (k % 1000)).2.1 (T (k % 1000)).2.2.1 ∈ gtbl ∧
  (k / 1000 = 1 → (T (k % 1000)).2.2.2 = false ∧ parseFieldDescriptor (T (k % 1000)).2.2.1 = some .boolean) ∧ (k / 1000 = 2 → (T (k % 1000)).2.2.2 = false ∧ parseFieldDescriptor (T (k % 1000)).2.2.1 = some .int)
def metOk (y : Nat) : Prop := Cond.code (mth y).1 (mth y).2.1 (mth y).2.2.1 (mth y).2.2.2.1 ∈ gtbl ∧ Cond.initialized (mth y).1.cls ∈ gtbl ∧ ((mth y).1.cls ≠ "java/lang/invoke/MethodHandle" ∧ (mth y).1.cls ≠ "java/lang/invoke/VarHandle") ∧ (mth y).2.2.1 ≤ 22 ∧ plainName (mth y).1.cls = true ∧ (mth y).1.cls = (mth y).2.2.2.2.1
def lnkOk (own : String) (i kd y n : Nat) : Prop := match kd with
  | 0 => y < 195 ∧ 1 ≤ n ∧ (parseMethodDescriptor (mth y).1.desc).map (fun d => d.parameters.length) = some (n - 1) ∧ Cond.methodLink own i (mth y).1 ∈ gtbl ∧ Cond.instanceMethod (mth y).1 ∈ gtbl ∧ Cond.selects (mth y).1.cls (mth y).1 (mth y).1 ∈ gtbl ∧ ∃ (k : Nat) (T : u_T) (N : Nat), (mth y).2.2.2.2.2.1 = some k ∧ vwCl[k]? = some ((mth y).1.cls, T, N)
  | 1 => y < 195 ∧ (parseMethodDescriptor (mth y).1.desc).map (fun d => d.parameters.length) = some n ∧ Cond.methodLink own i (mth y).1 ∈ gtbl ∧ Cond.static (mth y).1 ∈ gtbl
  | 2 => y < 195 ∧ (parseMethodDescriptor (mth y).1.desc).map (fun d => d.parameters.length) = some n ∧ Cond.methodLinkNest own i (mth y).1 "TornLayers" ∈ xNest ∧ Cond.static (mth y).1 ∈ gtbl
  | _ => own = "TornLayers$Tape" ∧ i = 44 ∧ y = 900 ∧ n = 2
def lkG (own : String) (lk : mLk) : Prop := (∀ i ci k, (i, ci, k) ∈ lk.1 → fldOk own i ci k) ∧ (∀ i kd y n, (i, kd, y, n) ∈ lk.2.1 → lnkOk own i kd y n) ∧ (∀ j v, (j, v) ∈ lk.2.2.1 → Cond.constant own j (Int32.ofNat v) ∈ gtbl) ∧ (∀ j v, (j, v) ∈ lk.2.2.2.1 → Cond.constantLong own j (Int64.ofNat v) ∈ gtbl) ∧
  (∀ i ∈ lk.2.2.2.2, Cond.methodLink own i arraycopyName ∈ gtbl ∧ Cond.native arraycopyName ∈ gtbl ∧ Cond.static arraycopyName ∈ gtbl ∧ Cond.initialized "java/lang/System" ∈ gtbl)
/-- all of it: the method's own, its links, all methods, the room for calls as deep as d -/
def Cx (p : Program) (R : Room) (s : State) (m : MethodId) (args : Array Value) (c : Code) (cc : ByteArray) (nL : Nat) (own : String) (lk : mLk) (w : mW) (d : Nat) : Prop :=
  CallFix p m c cc nL s args gtbl own ∧ va_K w.2.2.1 vwCl [(w.2.2.2.1, .int)] s ∧ Ext w s s.heap ∧ lkG own lk ∧ (∀ ci, ci < 5 → clsOk ci) ∧ (∀ y, y < 195 → metOk y) ∧ d + 1 ≤ R.frames ∧ 41 * (d + 1) ≤ R.locals
/-- what a call of M is worth -/
def MSound (l : Launch) (w : mW) (d : Nat) (M : mK) : Prop := ∀ (y : Nat) (as : List mV) (h : mH) (post : mP), M y as h post → y < 195 → MetY l w d y as h post ∧ rcv (mth y).2.2.2.2.2.1 as
theorem good_ws {y : Nat} (h : metOk y) : GoodIn gtbl (wsY y) := by
  intro w hw
  rcases List.mem_cons.mp hw with rfl | hw
  · exact ⟨h.1, Or.inl rfl⟩
  · exact ⟨hw, gtbl_good hw⟩
theorem good_app {a b : List Cond} (ha : ∀ w ∈ a, w ∈ gtbl) (hb : GoodIn gtbl b) : GoodIn gtbl (a ++ b) := by
  intro w hw
  rcases List.mem_append.mp hw with h | h
  · exact ⟨ha w h, gtbl_good (ha w h)⟩
  · exact hb w h
theorem cat_le (v : Value) : v.category ≤ 2 := by cases v <;> simp [Value.category]
theorem cat_sum {ad : mRef → Nat} : ∀ (st : List mV), ((st.map (tv ad)).map fun v => v.category).sum ≤ 2 * st.length
  | [] => Nat.le_refl _
  | v :: st => by
    have h1 := cat_sum (ad := ad) st
    have h2 := cat_le (tv ad v)
    simp only [List.map_cons, List.sum_cons, List.length_cons]
    omega
section CG
variable {p : Program} {l : Launch} {e : Env} {R : Room} {s : State} {m : MethodId} {args : Array Value} {below : List Frame} {meth : Method} {c : Code} {H : Heap} {locs : List Loc} {cells slots : Nat} {Q : State → Prop} {pc : Nat} {ls : Array Slot} {rest st0 : List Value} {a : Array Value} {w : mW} {post : mP}
theorem call_g (hr : va_Run p l e R s m args below meth c H locs cells slots 0 0 (F0 m pc ls st0) rest (mQ w post a) w.2.2.2.2.1) (hS : va_S w.2.2.2.2.1 s.heap H locs)
    (kk : ∀ (v : Option mV) (h' : mH) (H1 : Heap) (locs1 : List Loc), post v h' → Rl w s h' H1 locs1 → W p l e R s m args below meth c H1 locs1 cells slots Q (F0 m (pc + 3) ls ((v.map (tv w.1)).toList ++ rest))) : W p l e R s m args below meth c H locs cells slots Q (F0 m pc ls st0) := by
  intro T hT X
  obtain ⟨v, st₀, t, T', L, h0, X', hL, e1, e2, ⟨⟨v', h', hv, hp, hP, hD, hs⟩, hz, hk⟩, st⟩ := hr T hT X
  cases hv
  rw [h0] at hz hk
  have hS1 : va_S w.2.2.2.2.1 s.heap T'.heap (locs ++ L) := ⟨Nat.le_trans hS.1 (by rw [e1]; exact hz), fun q h1 h2 => by rw [e1, hk q (Nat.lt_of_lt_of_le h1 hS.1) h2]; exact hS.2.1 q h1 h2, fun q hq => by
      rcases List.mem_append.mp hq with h | h
      · exact hS.2.2 q h
      · exact hL q h⟩
  obtain ⟨t2, a1, b1⟩ := kk v' h' T'.heap (locs ++ L) hp ⟨by rw [e1]; exact hP, hD, hS1, hs⟩ T' rfl X'
  exact ⟨t2, st t2 a1, b1⟩
end CG
