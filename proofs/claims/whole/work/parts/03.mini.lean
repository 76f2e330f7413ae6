/-! ===== a small semantics of the bytecode over one fixed world: values, heap, one instruction, a block, a method ===== -/
/-- a cell: of an image (which, which part), or another by its number -/
abbrev mRef : Type := (Fin 3 × Nat) ⊕ Nat
abbrev mV : Type := Int32 ⊕ (Int64 ⊕ mRef)
abbrev mH : Type := mRef → Nat → Int32
abbrev mL : Type := List (Option mV)
abbrev mC : Type := mL → List mV → mH → Prop
abbrev mP : Type := Option mV → mH → Prop
abbrev mK : Type := Nat → List mV → mH → mP → Prop
/-- an instruction: its pc, itself, its length, what its operand means here -/
abbrev mE : Type := Nat × Instr × Nat × List Nat
abbrev mB : Type := Bool × List mE
def hup (h : mH) (r : mRef) (k : Nat) (v : Int32) : mH := fun r' k' => if r' = r ∧ k' = k then v else h r' k'
def hcp (h : mH) (a : mRef) (sp : Nat) (d : mRef) (dp n : Nat) : mH := fun r' k' => if r' = d ∧ dp ≤ k' ∧ k' < dp + n then h a (sp + (k' - dp)) else h r' k'
/-- an object's class and fields (none: a number) -/
def obj (r : mRef) : Nat × List (Option mRef) := match r with
  | .inl (i, 0) => (0, [some (.inl (i, 1)), some (.inl (i, 2)), some (.inl (i, 3)), some (.inl (i, 4)), some (.inl (i, 5)), none, none, some (.inl (i, 6))])
  | .inr 0 => (3, [some (.inl (0, 0)), some (.inl (1, 0)), some (.inr 2), some (.inr 4), some (.inr 1), none, none])
  | .inr 2 => (2, [some (.inl (2, 0)), none, none, none, none, none, none, none, some (.inr 3)])
  | .inr 4 => (1, [some (.inr 5), some (.inr 6), none, none, none, none])
  | .inr 7 => (4, [some (.inr 8), some (.inr 9), some (.inr 10), none, some (.inr 11), some (.inr 12), some (.inr 13), none, none, none, none, none, some (.inr 14), some (.inr 15), some (.inr 16), none, none, none])
  | _ => (99, [])
/-- an array's length; of the script: sL -/
def arr (sL : Nat) (r : mRef) : Option Nat := match r with
  | .inl (_, 1) => some 256
  | .inl (_, 2) => some 64
  | .inl (_, 3) => some 56
  | .inl (_, 4) => some 6
  | .inl (_, 5) => some 8
  | .inl (_, 6) => some 64
  | .inr 1 => some 4
  | .inr 3 => some 4
  | .inr 5 => some 120
  | .inr 6 => some 3
  | .inr 8 => some 400
  | .inr 9 => some 400
  | .inr 10 => some 400
  | .inr 11 => some 4
  | .inr 12 => some 64
  | .inr 13 => some 64
  | .inr 14 => some 4
  | .inr 15 => some 120
  | .inr 16 => some 480
  | .inr 20 => some 7
  | .inr 22 => some sL
  | _ => none
/-- the same, of those that may be written -/
def arw (r : mRef) : Option Nat := match r with
  | .inl (_, 1) => some 256
  | .inl (_, 2) => some 64
  | .inl (_, 3) => some 56
  | .inl (_, 4) => some 6
  | .inl (_, 5) => some 8
  | .inl (_, 6) => some 64
  | .inr 1 => some 4
  | .inr 3 => some 4
  | .inr 5 => some 120
  | .inr 6 => some 3
  | .inr 8 => some 400
  | .inr 9 => some 400
  | .inr 10 => some 400
  | .inr 11 => some 4
  | .inr 12 => some 64
  | .inr 13 => some 64
  | .inr 14 => some 4
  | .inr 15 => some 120
  | .inr 16 => some 480
  | _ => none
def lst (ls : mL) (k : Nat) (v : mV) : mL := ls.set k (some v)
/-- a long takes two: behind it stands none -/
def ls2 (ls : mL) (k : Nat) (v : mV) : mL := (ls.set k (some v)).set (k + 1) none
/-- what is known of a local: a long only if what is behind it is none -/
def lcl (ls : mL) (k : Nat) : Option mV := match ls.getD k none with
  | some (.inr (.inl x)) => match ls.getD (k + 1) none with
    | none => some (.inr (.inl x))
    | some _ => none
  | o => o
def bz (x : Int32) : Prop := x = 0 ∨ x = 1
/-- what an instruction without heap does to locals and stack -/
def pop1 (i : Instr) (t : List Nat) (ls : mL) (st : List mV) : Option (mL × List mV) := match i with
  | .iconst n => some (ls, .inl (Int32.ofInt n) :: st)
  | .bipush n => some (ls, .inl (Int8.ofInt n).toInt32 :: st)
  | .sipush n => some (ls, .inl (Int16.ofInt n).toInt32 :: st)
  | .lconst n => some (ls, .inr (.inl (Int64.ofNat (n : Nat))) :: st)
  | .ldc _ => match t with
    | [0, v] => some (ls, .inl (Int32.ofNat v) :: st)
    | [1] => some (ls, .inr (.inr (.inr 21)) :: st)
    | _ => none
  | .ldc2_w _ => match t with
    | [v] => some (ls, .inr (.inl (Int64.ofNat v)) :: st)
    | _ => none
  | .getstatic _ => some (ls, .inr (.inr (.inr 20)) :: st)
  | .iload k => match lcl ls k with
    | some (.inl x) => some (ls, .inl x :: st)
    | _ => none
  | .iload_n k => match lcl ls k.val with
    | some (.inl x) => some (ls, .inl x :: st)
    | _ => none
  | .lload k => match lcl ls k with
    | some (.inr (.inl x)) => some (ls, .inr (.inl x) :: st)
    | _ => none
  | .lload_n k => match lcl ls k.val with
    | some (.inr (.inl x)) => some (ls, .inr (.inl x) :: st)
    | _ => none
  | .aload k => match lcl ls k with
    | some (.inr (.inr r)) => some (ls, .inr (.inr r) :: st)
    | _ => none
  | .aload_n k => match lcl ls k.val with
    | some (.inr (.inr r)) => some (ls, .inr (.inr r) :: st)
    | _ => none
  | .istore k => match st with
    | .inl x :: s => some (lst ls k (.inl x), s)
    | _ => none
  | .istore_n k => match st with
    | .inl x :: s => some (lst ls k.val (.inl x), s)
    | _ => none
  | .astore k => match st with
    | .inr (.inr r) :: s => some (lst ls k (.inr (.inr r)), s)
    | _ => none
  | .astore_n k => match st with
    | .inr (.inr r) :: s => some (lst ls k.val (.inr (.inr r)), s)
    | _ => none
  | .lstore k => match st with
    | .inr (.inl x) :: s => some (ls2 ls k (.inr (.inl x)), s)
    | _ => none
  | .lstore_n k => match st with
    | .inr (.inl x) :: s => some (ls2 ls k.val (.inr (.inl x)), s)
    | _ => none
  | .iinc k n => match lcl ls k with
    | some (.inl x) => some (lst ls k (.inl (x + Int32.ofInt n)), st)
    | _ => none
  | .iadd => match st with
    | .inl y :: .inl x :: s => some (ls, .inl (x + y) :: s)
    | _ => none
  | .isub => match st with
    | .inl y :: .inl x :: s => some (ls, .inl (x - y) :: s)
    | _ => none
  | .imul => match st with
    | .inl y :: .inl x :: s => some (ls, .inl (x * y) :: s)
    | _ => none
  | .iand => match st with
    | .inl y :: .inl x :: s => some (ls, .inl (x &&& y) :: s)
    | _ => none
  | .ior => match st with
    | .inl y :: .inl x :: s => some (ls, .inl (x ||| y) :: s)
    | _ => none
  | .ishl => match st with
    | .inl y :: .inl x :: s => some (ls, .inl (x <<< (y &&& 31)) :: s)
    | _ => none
  | .ladd => match st with
    | .inr (.inl y) :: .inr (.inl x) :: s => some (ls, .inr (.inl (x + y)) :: s)
    | _ => none
  | .lsub => match st with
    | .inr (.inl y) :: .inr (.inl x) :: s => some (ls, .inr (.inl (x - y)) :: s)
    | _ => none
  | .land => match st with
    | .inr (.inl y) :: .inr (.inl x) :: s => some (ls, .inr (.inl (x &&& y)) :: s)
    | _ => none
  | .lor => match st with
    | .inr (.inl y) :: .inr (.inl x) :: s => some (ls, .inr (.inl (x ||| y)) :: s)
    | _ => none
  | .lxor => match st with
    | .inr (.inl y) :: .inr (.inl x) :: s => some (ls, .inr (.inl (x ^^^ y)) :: s)
    | _ => none
  | .lshl => match st with
    | .inl y :: .inr (.inl x) :: s => some (ls, .inr (.inl (x <<< (y.toInt64 &&& 63))) :: s)
    | _ => none
  | .lushr => match st with
    | .inl y :: .inr (.inl x) :: s => some (ls, .inr (.inl (x.toUInt64 >>> (y.toInt64.toUInt64 &&& Int64.toUInt64 63)).toInt64) :: s)
    | _ => none
  | .lcmp => match st with
    | .inr (.inl y) :: .inr (.inl x) :: s => some (ls, .inl (lg_cmp x y) :: s)
    | _ => none
  | .i2l => match st with
    | .inl x :: s => some (ls, .inr (.inl x.toInt64) :: s)
    | _ => none
  | .l2i => match st with
    | .inr (.inl x) :: s => some (ls, .inl x.toInt32 :: s)
    | _ => none
  | .i2c => match st with
    | .inl x :: s => some (ls, .inl (x.toUInt32 % 65536).toInt32 :: s)
    | _ => none
  | .dup => match st with
    | .inl x :: s => some (ls, .inl x :: .inl x :: s)
    | .inr (.inr r) :: s => some (ls, .inr (.inr r) :: .inr (.inr r) :: s)
    | _ => none
  | .dup2 => match st with
    | .inl x :: .inr (.inr r) :: s => some (ls, .inl x :: .inr (.inr r) :: .inl x :: .inr (.inr r) :: s)
    | _ => none
  | .pop => match st with
    | .inl _ :: s => some (ls, s)
    | _ => none
  | _ => none
def brc (c : ClassFile.Cond) (x y : Int32) (A B : Prop) : Prop := match c with
  | .eq => (x = y → A) ∧ (¬ x = y → B)
  | .ne => (¬ x = y → A) ∧ (x = y → B)
  | .lt => (x < y → A) ∧ (¬ x < y → B)
  | .ge => (y ≤ x → A) ∧ (¬ y ≤ x → B)
  | .gt => (y < x → A) ∧ (¬ y < x → B)
  | .le => (x ≤ y → A) ∧ (¬ x ≤ y → B)
def swt (x : Int32) (L : Nat → Prop) (D : Prop) : Int → List Nat → Prop
  | _, [] => D
  | lo, k :: ts => (x = Int32.ofInt lo → L k) ∧ (¬ x = Int32.ofInt lo → swt x L D (lo + 1) ts)
/-- calls: of an int, of a long, of no answer -/
def pI (p : Int32 → mH → Prop) : mP := fun v h => match v with
  | some (.inl x) => p x h
  | _ => False
def pG (p : Int64 → mH → Prop) : mP := fun v h => match v with
  | some (.inr (.inl x)) => p x h
  | _ => False
def pU (p : mH → Prop) : mP := fun v h => match v with
  | none => p h
  | _ => False
def mI (M : mK) (y : Nat) (as : List mV) (h : mH) (p : Int32 → mH → Prop) : Prop := M y as h (pI p)
def mG (M : mK) (y : Nat) (as : List mV) (h : mH) (p : Int64 → mH → Prop) : Prop := M y as h (pG p)
def mU (M : mK) (y : Nat) (as : List mV) (h : mH) (p : mH → Prop) : Prop := M y as h (pU p)
theorem pI_mono {p q : Int32 → mH → Prop} (h : ∀ x h', p x h' → q x h') : ∀ v h', pI p v h' → pI q v h'
  | some (.inl x), h', k => h x h' k
  | none, _, k => k
  | some (.inr _), _, k => k
theorem pG_mono {p q : Int64 → mH → Prop} (h : ∀ x h', p x h' → q x h') : ∀ v h', pG p v h' → pG q v h'
  | some (.inr (.inl x)), h', k => h x h' k
  | none, _, k => k
  | some (.inl _), _, k => k
  | some (.inr (.inr _)), _, k => k
theorem pU_mono {p q : mH → Prop} (h : ∀ h', p h' → q h') : ∀ v h', pU p v h' → pU q v h'
  | none, h', k => h h' k
  | some _, _, k => k
/-- words of a stack -/
def cw : List mV → Nat
  | [] => 0
  | .inr (.inl _) :: s => cw s + 2
  | .inl _ :: s => cw s + 1
  | .inr (.inr _) :: s => cw s + 1
def cal (M : mK) (t : List Nat) (nx : mC) (ls : mL) (st : List mV) (h : mH) : Prop := match t with
  | [_, y, n, 0] => if n ≤ st.length ∧ (st.length ≤ n + 4 ∨ cw (st.drop n) ≤ 8) then mU M y (st.take n).reverse h (fun h' => nx ls (st.drop n) h') else False
  | [_, y, n, 1] => if n ≤ st.length ∧ (st.length ≤ n + 4 ∨ cw (st.drop n) ≤ 8) then mI M y (st.take n).reverse h (fun x h' => nx ls (.inl x :: st.drop n) h') else False
  | [_, y, n, 2] => if n ≤ st.length ∧ (st.length ≤ n + 4 ∨ cw (st.drop n) ≤ 8) then mG M y (st.take n).reverse h (fun x h' => nx ls (.inr (.inl x) :: st.drop n) h') else False
  | [9] => match st with
    | .inl n :: .inl dp :: .inr (.inr d) :: .inl sp :: .inr (.inr a) :: s => ∃ na nd, arw a = some na ∧ arw d = some nd ∧ 0 ≤ sp ∧ 0 ≤ dp ∧ 0 ≤ n ∧ sp.toNatClampNeg + n.toNatClampNeg ≤ na ∧ dp.toNatClampNeg + n.toNatClampNeg ≤ nd ∧ s.length ≤ 4 ∧ nx ls s (hcp h a sp.toNatClampNeg d dp.toNatClampNeg n.toNatClampNeg)
    | _ => False
  | _ => False
def den1 (M : mK) (sL : Nat) (post : mP) (L : Nat → mC) (b : Nat) (it : mE) (nx : mC) : mC := fun ls st h =>
  match it.2.1 with
  | .ireturn => match st with
    | [.inl x] => match it.2.2.2 with
      | [] => post (some (.inl x)) h
      | _ => bz x ∧ post (some (.inl x)) h
    | _ => False
  | .lreturn => match st with
    | [.inr (.inl x)] => post (some (.inr (.inl x))) h
    | _ => False
  | .return_ => match st with
    | [] => post none h
    | _ => False
  | .goto _ => match it.2.2.2 with
    | [k] => L k ls st h
    | _ => False
  | .ifCond c _ => match it.2.2.2, st with
    | [k], .inl x :: s => brc c x 0 (L k ls s h) (L (b + 1) ls s h)
    | _, _ => False
  | .if_icmp c _ => match it.2.2.2, st with
    | [k], .inl y :: .inl x :: s => brc c x y (L k ls s h) (L (b + 1) ls s h)
    | _, _ => False
  | .tableswitch _ lo _ _ => match it.2.2.2, st with
    | k :: ts, .inl x :: s => swt x (fun j => L j ls s h) (L k ls s h) lo ts
    | _, _ => False
  | .getfield _ => match it.2.2.2, st with
    | [ci, k], .inr (.inr r) :: s => if (obj r).1 = ci then match (obj r).2[k]? with
        | some (some r') => nx ls (.inr (.inr r') :: s) h
        | some none => nx ls (.inl (h r k) :: s) h
        | none => False else False
    | _, _ => False
  | .putfield _ => match it.2.2.2, st with
    | [ci, k], .inl v :: .inr (.inr r) :: s => if (obj r).1 = ci then match (obj r).2[k]? with
        | some none => nx ls s (hup h r k v)
        | _ => False else False
    | [ci, k, _], .inl v :: .inr (.inr r) :: s => if (obj r).1 = ci then match (obj r).2[k]? with
        | some none => bz v ∧ nx ls s (hup h r k v)
        | _ => False else False
    | _, _ => False
  | .iaload => match st with
    | .inl j :: .inr (.inr r) :: s => match arr sL r with
      | some n => vp_in j n ∧ nx ls (.inl (h r j.toNatClampNeg) :: s) h
      | none => False
    | _ => False
  | .iastore => match st with
    | .inl v :: .inl j :: .inr (.inr r) :: s => match arw r with
      | some n => vp_in j n ∧ nx ls s (hup h r j.toNatClampNeg v)
      | none => False
    | _ => False
  | .arraylength => match st with
    | .inr (.inr r) :: s => match arr sL r with
      | some n => nx ls (.inl (nI n) :: s) h
      | none => False
    | _ => False
  | .idiv => match st with
    | .inl y :: .inl x :: s => ¬ y = 0 ∧ nx ls (.inl (x / y) :: s) h
    | _ => False
  | .irem => match st with
    | .inl y :: .inl x :: s => ¬ y = 0 ∧ nx ls (.inl (x - x / y * y) :: s) h
    | _ => False
  | .invokevirtual _ => cal M it.2.2.2 nx ls st h
  | .invokestatic _ => cal M it.2.2.2 nx ls st h
  | i => match pop1 i it.2.2.2 ls st with
    | some q => nx q.1 q.2 h
    | none => False
/-- a block from an instruction on; behind its last the next block -/
def denB (M : mK) (sL : Nat) (post : mP) (L : Nat → mC) (b : Nat) (c : List mE) : mC := c.foldr (den1 M sL post L b) (L (b + 1))
def blk (code : List mB) (b : Nat) : mB := code.getD b (false, [])
/-- from block b on the method comes to its end, with post: the least such -/
def EX (M : mK) (sL : Nat) (code : List mB) (post : mP) (b : Nat) : mC := fun ls st h => ∀ X : Nat → mC, (∀ b ls st h, denB M sL post X b (blk code b).2 ls st h → X b ls st h) → X b ls st h
/-- the same gone through from block to block, but for those that are cut -/
def wsl (M : mK) (sL : Nat) (code : List mB) (post : mP) (L : Nat → mC) (b : Nat) (q : Bool) (c : List mE) : mC := match q with
  | true => EX M sL code post b
  | false => denB M sL post L b c
def wpc (M : mK) (sL : Nat) (code : List mB) (post : mP) (cut : List Bool) : Nat → Nat → mC
  | 0, b => EX M sL code post b
  | k + 1, b => wsl M sL code post (wpc M sL code post cut k) b (cut.getD b false) (blk code b).2
/-! ===== it is monotone ===== -/
def mMono (M : mK) : Prop := ∀ (y : Nat) (as : List mV) (h : mH) (p q : mP), (∀ v h', p v h' → q v h') → M y as h p → M y as h q
theorem brc_mono {c : ClassFile.Cond} {x y : Int32} {A A' B B' : Prop} (ha : A → A') (hb : B → B') : brc c x y A B → brc c x y A' B' := by
  cases c <;> exact fun h => ⟨fun q => ha (h.1 q), fun q => hb (h.2 q)⟩
theorem swt_mono {x : Int32} {L L' : Nat → Prop} {D D' : Prop} (hl : ∀ k, L k → L' k) (hd : D → D') : ∀ (ts : List Nat) (lo : Int), swt x L D lo ts → swt x L' D' lo ts
  | [], _, h => hd h
  | k :: ts, lo, h => ⟨fun q => hl k (h.1 q), fun q => swt_mono hl hd ts (lo + 1) (h.2 q)⟩
theorem cal_mono {M : mK} (hM : mMono M) {t : List Nat} {nx nx' : mC} (hn : ∀ ls st h, nx ls st h → nx' ls st h) {ls : mL} {st : List mV} {h : mH} : cal M t nx ls st h → cal M t nx' ls st h := by
  unfold cal
  split
  · split
    · exact hM _ _ _ _ _ (pU_mono fun h' q => hn _ _ _ q)
    · exact id
  · split
    · exact hM _ _ _ _ _ (pI_mono fun x h' q => hn _ _ _ q)
    · exact id
  · split
    · exact hM _ _ _ _ _ (pG_mono fun x h' q => hn _ _ _ q)
    · exact id
  · split
    · intro ⟨na, nd, h1, h2, h3, h4, h5, h6, h7, h8, h9⟩
      exact ⟨na, nd, h1, h2, h3, h4, h5, h6, h7, h8, hn _ _ _ h9⟩
    · exact id
  · exact id
set_option maxHeartbeats 4000000 in
theorem den1_mono {M : mK} (hM : mMono M) {sL : Nat} {post post' : mP} {L L' : Nat → mC} {b : Nat} {it : mE} {nx nx' : mC} (hp : ∀ v h, post v h → post' v h) (hL : ∀ k ls st h, L k ls st h → L' k ls st h) (hn : ∀ ls st h, nx ls st h → nx' ls st h) {ls : mL} {st : List mV} {h : mH} : den1 M sL post L b it nx ls st h → den1 M sL post' L' b it nx' ls st h := by
  unfold den1
  split
  · split
    · split
      · exact hp _ _
      · exact fun q => ⟨q.1, hp _ _ q.2⟩
    · exact id
  · split
    · exact hp _ _
    · exact id
  · split
    · exact hp _ _
    · exact id
  · split
    · exact hL _ _ _ _
    · exact id
  · split
    · exact brc_mono (hL _ _ _ _) (hL _ _ _ _)
    · exact id
  · split
    · exact brc_mono (hL _ _ _ _) (hL _ _ _ _)
    · exact id
  · split
    · exact swt_mono (fun k => hL _ _ _ _) (hL _ _ _ _) _ _
    · exact id
  · split
    · split
      · split
        · exact hn _ _ _
        · exact hn _ _ _
        · exact id
      · exact id
    · exact id
  · split
    · split
      · split
        · exact hn _ _ _
        · exact id
      · exact id
    · split
      · split
        · exact fun q => ⟨q.1, hn _ _ _ q.2⟩
        · exact id
      · exact id
    · exact id
  · split
    · split
      · exact fun q => ⟨q.1, hn _ _ _ q.2⟩
      · exact id
    · exact id
  · split
    · split
      · exact fun q => ⟨q.1, hn _ _ _ q.2⟩
      · exact id
    · exact id
  · split
    · split
      · exact hn _ _ _
      · exact id
    · exact id
  · split
    · exact fun q => ⟨q.1, hn _ _ _ q.2⟩
    · exact id
  · split
    · exact fun q => ⟨q.1, hn _ _ _ q.2⟩
    · exact id
  · exact cal_mono hM hn
  · exact cal_mono hM hn
  · split
    · exact hn _ _ _
    · exact id
theorem denB_mono {M : mK} (hM : mMono M) {sL : Nat} {post post' : mP} {L L' : Nat → mC} {b : Nat} (hp : ∀ v h, post v h → post' v h) (hL : ∀ k ls st h, L k ls st h → L' k ls st h) : ∀ (c : List mE) {ls : mL} {st : List mV} {h : mH}, denB M sL post L b c ls st h → denB M sL post' L' b c ls st h
  | [], _, _, _, h => hL _ _ _ _ h
  | it :: c, ls, st, hh, h => den1_mono (sL := sL) (b := b) (it := it) (nx := denB M sL post L b c) (nx' := denB M sL post' L' b c) hM hp hL (fun _ _ _ q => denB_mono hM hp hL c q) h
theorem EX.u {M : mK} (hM : mMono M) {sL : Nat} {code : List mB} {post : mP} {b : Nat} {ls : mL} {st : List mV} {h : mH} (H : denB M sL post (EX M sL code post) b (blk code b).2 ls st h) : EX M sL code post b ls st h :=
  fun X hX => hX _ _ _ _ (denB_mono hM (fun _ _ q => q) (fun _ _ _ _ q => q X hX) _ H)
theorem EX.mono {M : mK} (hM : mMono M) {sL : Nat} {code : List mB} {post post' : mP} (hp : ∀ v h, post v h → post' v h) {b : Nat} {ls : mL} {st : List mV} {h : mH} (H : EX M sL code post b ls st h) : EX M sL code post' b ls st h :=
  fun X hX => H X (fun _ _ _ _ q => hX _ _ _ _ (denB_mono hM hp (fun _ _ _ _ q => q) _ q))
theorem EX.gb {M : mK} (hM : mMono M) {sL : Nat} {code : List mB} {post : mP} (cut : List Bool) : ∀ (k b : Nat) {ls : mL} {st : List mV} {h : mH}, wpc M sL code post cut k b ls st h → EX M sL code post b ls st h
  | 0, _, _, _, _, H => H
  | k + 1, b, ls, st, h, H => by
    unfold wpc at H
    cases hf : cut.getD b false with
    | true => rw [hf] at H; exact H
    | false => rw [hf] at H; exact EX.u hM (denB_mono hM (fun _ _ q => q) (fun b' _ _ _ q => EX.gb hM cut k b' q) _ H)
/-- go: block b, and those behind it that are not cut -/
theorem EX.go {M : mK} (hM : mMono M) {sL : Nat} {code : List mB} {post : mP} (cut : List Bool) (k b : Nat) {ls : mL} {st : List mV} {h : mH} (H : wsl M sL code post (wpc M sL code post cut k) b false (blk code b).2 ls st h) : EX M sL code post b ls st h :=
  EX.u hM (denB_mono hM (fun _ _ q => q) (fun b' _ _ _ q => EX.gb hM cut k b' q) _ H)
