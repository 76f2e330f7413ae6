/-! ===== what the listing of a method must be, by program ===== -/
def ilen : Instr → Nat
  | .bipush _ => 2
  | .sipush _ => 3
  | .ldc _ => 2
  | .ldc2_w _ => 3
  | .getstatic _ => 3
  | .iload _ => 2
  | .lload _ => 2
  | .aload _ => 2
  | .istore _ => 2
  | .lstore _ => 2
  | .astore _ => 2
  | .iinc _ _ => 3
  | .goto _ => 3
  | .ifCond _ _ => 3
  | .if_icmp _ _ => 3
  | .getfield _ => 3
  | .putfield _ => 3
  | .invokevirtual _ => 3
  | .invokestatic _ => 3
  | _ => 1
def isTab : Instr → Bool
  | .tableswitch _ _ _ _ => true
  | _ => false
/-- it doesn't go on at the next -/
def isEnd : Instr → Bool
  | .tableswitch _ _ _ _ => true
  | .ireturn => true
  | .lreturn => true
  | .return_ => true
  | .goto _ => true
  | _ => false
def isIf : Instr → Bool
  | .ifCond _ _ => true
  | .if_icmp _ _ => true
  | _ => false
def spc (code : List mB) (k : Nat) : Option Nat := (blk code k).2.head?.map (fun q => q.1)
def okT (code : List mB) (pc : Nat) (off : Int) (k : Nat) : Bool := match spc code k with
  | some q => decide ((pc : Int) + off = (q : Int))
  | none => false
def okTs (code : List mB) (pc : Nat) : List Int → List Nat → Bool
  | [], [] => true
  | o :: os, k :: ks => okT code pc o k && okTs code pc os ks
  | _, _ => false
/-- what is linked where: of a class its fields, its methods, its constants -/
abbrev mLk : Type := List (Nat × Nat × Nat) × List (Nat × Nat × Nat × Nat) × List (Nat × Nat) × List (Nat × Nat) × List Nat
def okX (lk : mLk) (own : String) (mx : Nat) (ret : Option FieldType) (code : List mB) (it : mE) : Bool := match it.2.1, it.2.2.2 with
  | .ireturn, [] => decide (ret = some .int)
  | .ireturn, _ :: _ => decide (ret = some .boolean)
  | .lreturn, _ => decide (ret = some .long)
  | .return_, _ => decide (ret = none)
  | .goto o, [k] => okT code it.1 o k
  | .ifCond _ o, [k] => okT code it.1 o k
  | .if_icmp _ o, [k] => okT code it.1 o k
  | .tableswitch d lo hi os, k :: ks => okT code it.1 d k && okTs code it.1 os.toList ks && decide (hi = lo + (ks.length : Int) - 1) && decide (-2147483648 ≤ lo) && decide (hi ≤ 2147483647) && decide (0 < ks.length)
  | .istore k, _ => decide (k < mx)
  | .istore_n k, _ => decide (k.val < mx)
  | .astore k, _ => decide (k < mx)
  | .astore_n k, _ => decide (k.val < mx)
  | .lstore k, _ => decide (k + 1 < mx)
  | .lstore_n k, _ => decide (k.val + 1 < mx)
  | .iinc k _, _ => decide (k < mx)
  | .getfield i, [ci, k] => decide ((i, ci, k) ∈ lk.1)
  | .putfield i, [ci, k] => decide ((i, ci, k + 2000) ∈ lk.1)
  | .putfield i, [ci, k, _] => decide ((i, ci, k + 1000) ∈ lk.1)
  | .ldc i, [0, v] => decide ((i, v) ∈ lk.2.2.1)
  | .ldc i, [1] => decide (own = "TornLayers$Tape" ∧ i = 42)
  | .ldc2_w i, [v] => decide ((i, v) ∈ lk.2.2.2.1)
  | .getstatic i, _ => decide (own = "TornLayers$Tape" ∧ i = 50)
  | .invokevirtual i, [0, y, n, _] => decide ((i, 0, y, n) ∈ lk.2.1)
  | .invokevirtual i, [4, y, n, _] => decide ((i, 4, y, n) ∈ lk.2.1)
  | .invokestatic i, [1, y, n, _] => decide ((i, 1, y, n) ∈ lk.2.1)
  | .invokestatic i, [2, y, n, _] => decide ((i, 2, y, n) ∈ lk.2.1)
  | .invokestatic i, [9] => decide (i ∈ lk.2.2.2.2)
  | .invokevirtual _, _ => false
  | .invokestatic _, _ => false
  | _, _ => true
def okI (lk : mLk) (own : String) (cc : ByteArray) (mx : Nat) (ret : Option FieldType) (code : List mB) (it : mE) : Bool :=
  decide (decode cc it.1 = .ok (it.2.1, it.2.2.1)) && (isTab it.2.1 || decide (it.2.2.1 = ilen it.2.1)) && okX lk own mx ret code it
def okB (lk : mLk) (own : String) (cc : ByteArray) (mx : Nat) (ret : Option FieldType) (code : List mB) (b : Nat) : List mE → Bool
  | [] => true
  | it :: r => (decide (it.2.1 = .nop) || (okI lk own cc mx ret code it && (isEnd it.2.1 || (match r with
      | [] => decide (spc code (b + 1) = some (it.1 + it.2.2.1))
      | it' :: _ => decide (it'.1 = it.1 + it.2.2.1) && !isIf it.2.1)))) && okB lk own cc mx ret code b r
def okC (lk : mLk) (own : String) (cc : ByteArray) (mx : Nat) (ret : Option FieldType) (code : List mB) : Bool := code.zipIdx.all (fun q => okB lk own cc mx ret code q.2 q.1.2)
section SP
variable {p : Program} {l : Launch} {e : Env} {R : Room} {s : State} {m : MethodId} {args : Array Value} {below : List Frame} {meth : Method} {c : Code} {H : Heap} {locs : List Loc} {cells slots : Nat} {Q : State → Prop} {cc : ByteArray} {pc : Nat} {ad : mRef → Nat} {nL : Nat} {real : Array Slot}
theorem sn_lc {ls : mL} {v : mV} {k : Nat} (hl : LR ad nL real ls) (hv : lcl ls k = some v) : ∃ j : Nat, (clm ad ls)[j]? = some (k, tv ad v) := List.getElem?_of_mem (clm_mem.mpr ⟨v, hv, rfl⟩)
set_option maxHeartbeats 4000000 in
/-- the instructions without heap -/
theorem sn_pop {lk : mLk} {own : String} {mx : Nat} {ret : Option FieldType} {code : List mB} {i : Instr} {t : List Nat} {ls ls' : mL} {st st' : List mV} (hx : p.tables.exec = Jvm.exec) (hb : c.code = cc) (hmx : mx = nL) (hown : s.vm.findClass own = some m.cls)
    (hC : ∀ (j v : Nat), (j, v) ∈ lk.2.2.1 → (Cond.constant own j (Int32.ofNat v)).before args s = true) (hG : ∀ (j v : Nat), (j, v) ∈ lk.2.2.2.1 → (Cond.constantLong own j (Int64.ofNat v)).before args s = true)
    (hp : pop1 i t ls st = some (ls', st')) (hd : decode cc pc = .ok (i, ilen i)) (hok : okX lk own mx ret code (pc, i, ilen i, t) = true) (hs1 : ∀ j, i ≠ .getstatic j) (hs2 : ¬ ∃ j, i = .ldc j ∧ t = [1]) (hl : LR ad nL real ls)
    (kk : ∀ real', LR ad nL real' ls' → W p l e R s m args below meth c H locs cells slots Q (F0 m (pc + ilen i) real' (st'.map (tv ad)))) : W p l e R s m args below meth c H locs cells slots Q (F0 m pc real (st.map (tv ad))) := by
  subst hmx
  unfold pop1 at hp
  split at hp
  · cases hp; exact lv_iconst hx hb hd rfl (kk _ hl)
  · cases hp; exact lv_bipush hx hb hd rfl (kk _ hl)
  · cases hp; exact lv_sipush hx hb hd rfl (kk _ hl)
  · cases hp; exact lv_lconst hx hb hd rfl (kk _ hl)
  · split at hp
    · cases hp; exact lv_ldc hx hb hown (hC _ _ (of_decide_eq_true hok)) hd (kk _ hl)
    · exact absurd ⟨_, rfl, rfl⟩ hs2
    · cases hp
  · split at hp
    · cases hp; exact lv_ldc2 hx hb hown (hG _ _ (of_decide_eq_true hok)) hd (kk _ hl)
    · cases hp
  · exact absurd rfl (hs1 _)
  · split at hp
    · rename_i hv; cases hp; exact lv_iload hx hb hd (hl.get hv) (kk _ hl)
    · cases hp
  · split at hp
    · rename_i hv; cases hp; exact lv_iload_n hx hb hd rfl (hl.get hv) (kk _ hl)
    · cases hp
  · split at hp
    · rename_i hv; cases hp; exact lv_lload hx hb hd (hl.get hv) (kk _ hl)
    · cases hp
  · split at hp
    · rename_i hv; cases hp; exact lv_lload_n hx hb hd rfl (hl.get hv) (kk _ hl)
    · cases hp
  · split at hp
    · rename_i hv; cases hp; exact lv_aload hx hb hd (hl.get hv) (kk _ hl)
    · cases hp
  · split at hp
    · rename_i hv; cases hp; exact lv_aload_n hx hb hd rfl (hl.get hv) (kk _ hl)
    · cases hp
  · split at hp
    · cases hp; exact lv_istore hx hb hd hl.2 (of_decide_eq_true hok) rfl (fun real' h' => kk _ (LR.set1 (v := .inl _) hl.1 (of_decide_eq_true hok) h'))
    · cases hp
  · split at hp
    · cases hp; exact lv_istore_n hx hb hd rfl hl.2 (of_decide_eq_true hok) rfl (fun real' h' => kk _ (LR.set1 (v := .inl _) hl.1 (of_decide_eq_true hok) h'))
    · cases hp
  · split at hp
    · cases hp; exact lv_astore hx hb hd hl.2 (of_decide_eq_true hok) rfl (fun real' h' => kk _ (LR.set1 (v := .inr (.inr _)) hl.1 (of_decide_eq_true hok) h'))
    · cases hp
  · split at hp
    · cases hp; exact lv_astore_n hx hb hd rfl hl.2 (of_decide_eq_true hok) rfl (fun real' h' => kk _ (LR.set1 (v := .inr (.inr _)) hl.1 (of_decide_eq_true hok) h'))
    · cases hp
  · split at hp
    · cases hp; exact lv_lstore hx hb hd hl.2 (of_decide_eq_true hok) rfl (fun real' h' => kk _ (LR.set2 (v := .inr (.inl _)) hl.1 (of_decide_eq_true hok) h'))
    · cases hp
  · split at hp
    · cases hp; exact lv_lstore_n hx hb hd rfl hl.2 (of_decide_eq_true hok) rfl (fun real' h' => kk _ (LR.set2 (v := .inr (.inl _)) hl.1 (of_decide_eq_true hok) h'))
    · cases hp
  · split at hp
    · rename_i hv
      cases hp
      obtain ⟨j, hj⟩ := sn_lc hl hv
      exact lv_iinc hx hb hd hl.2 hj rfl (of_decide_eq_true hok) rfl (fun real' h' => kk _ (LR.set1 (v := .inl _) hl.1 (of_decide_eq_true hok) h'))
    · cases hp
  · split at hp
    · cases hp; exact lv_iadd hx hb hd (kk _ hl)
    · cases hp
  · split at hp
    · cases hp; exact lv_isub hx hb hd (kk _ hl)
    · cases hp
  · split at hp
    · cases hp; exact lv_imul hx hb hd (kk _ hl)
    · cases hp
  · split at hp
    · cases hp; exact lv_iand hx hb hd (kk _ hl)
    · cases hp
  · split at hp
    · cases hp; exact lv_ior hx hb hd (kk _ hl)
    · cases hp
  · split at hp
    · cases hp; exact lv_ishl hx hb hd (kk _ hl)
    · cases hp
  · split at hp
    · cases hp; exact lv_ladd hx hb hd (kk _ hl)
    · cases hp
  · split at hp
    · cases hp; exact lv_lsub hx hb hd (kk _ hl)
    · cases hp
  · split at hp
    · cases hp; exact lv_land hx hb hd (kk _ hl)
    · cases hp
  · split at hp
    · cases hp; exact lv_lor hx hb hd (kk _ hl)
    · cases hp
  · split at hp
    · cases hp; exact lv_lxor hx hb hd (kk _ hl)
    · cases hp
  · split at hp
    · cases hp; exact lv_lshl hx hb hd rfl (kk _ hl)
    · cases hp
  · split at hp
    · cases hp; exact lv_lushr hx hb hd rfl (kk _ hl)
    · cases hp
  · split at hp
    · cases hp; exact W.lcmp hx hb hd (kk _ hl)
    · cases hp
  · split at hp
    · cases hp; exact lv_i2l hx hb hd rfl (kk _ hl)
    · cases hp
  · split at hp
    · cases hp; exact lv_l2i hx hb hd rfl (kk _ hl)
    · cases hp
  · split at hp
    · cases hp; exact lv_i2c hx hb hd rfl (kk _ hl)
    · cases hp
  · split at hp
    · cases hp; exact lv_dup hx hb hd rfl (kk _ hl)
    · cases hp; exact lv_dup hx hb hd rfl (kk _ hl)
    · cases hp
  · split at hp
    · cases hp; exact lv_dup2_11 hx hb hd rfl rfl (kk _ hl)
    · cases hp
  · split at hp
    · cases hp; exact lv_pop hx hb hd rfl (kk _ hl)
    · cases hp
  · cases hp
end SP
