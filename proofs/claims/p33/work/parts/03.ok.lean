def tp_cls (i : Nat) : String := (tp_mi i).1
def tp_y (i : Nat) : MethodName := (tp_mi i).2.1
def tp_cc (i : Nat) : ByteArray := (tp_mi i).2.2.1
def tp_n (i : Nat) : Nat := (tp_mi i).2.2.2.1
def tp_ret (i : Nat) : Option FieldType := (tp_mi i).2.2.2.2.1
def tp_rf (i : Nat) : Nat := (tp_mi i).2.2.2.2.2.1.1
def tp_rl (i : Nat) : Nat := (tp_mi i).2.2.2.2.2.1.2
def tp_rk (i : Nat) : Nat := (tp_mi i).2.2.2.2.2.2.1
def tp_na (i : Nat) : Nat := (tp_mi i).2.2.2.2.2.2.2
/-! the check of an instruction -/
def tp_gt : List Cond := lw_tbl.filter goodWord
def tp_wd (c : Cond) (i : Nat) : Bool := decide (lw_tbl[i]? = some c) && goodWord c
theorem tp_gt_in {c : Cond} {i : Nat} (h : tp_wd c i = true) : c ∈ tp_gt := by
  simp only [tp_wd, Bool.and_eq_true, decide_eq_true_eq] at h
  exact List.mem_filter.mpr ⟨List.mem_of_getElem? h.1, h.2⟩
def tp_rm (i : Nat) : Room := { frames := tp_rf i, cells := 0, slots := 0, locals := tp_rl i }
def tp_wl (i : Nat) : List Cond := .code (tp_y i) (tp_cc i) (tp_n i) (tp_ret i) :: tp_gt
def tp_okc (mid a : Nat) : Bool := decide (a < tp_law) && decide (tp_rf a + 1 ≤ tp_rf mid ∧ 8 + (tp_n a + 11) + tp_rl a ≤ tp_rl mid)
def tp_ok2 (mid pc : Nat) (x : tp_Ins) : Bool := match x with
  | (i, n, v, a, b, w) => match i with
    | .iload_n _ => n == 1
    | .aload_n _ => n == 1
    | .lload_n _ => n == 1
    | .iload _ => n == 2
    | .aload _ => n == 2
    | .lload _ => n == 2
    | .iconst k => n == 1 && decide (Int32.ofInt k = v)
    | .bipush k => n == 2 && decide ((Int8.ofInt k).toInt32 = v)
    | .sipush k => n == 3 && decide ((Int16.ofInt k).toInt32 = v)
    | .ldc k => n == 2 && tp_wd (.constant (tp_cls mid) k v) w
    | .lconst _ => n == 1
    | .ldc2_w k => n == 3 && tp_wd (.constantLong (tp_cls mid) k (Int64.ofNat a)) w
    | .istore_n _ => n == 1
    | .astore_n _ => n == 1
    | .istore _ => n == 2
    | .astore _ => n == 2
    | .lstore _ => n == 2
    | .iinc _ k => n == 3 && decide (Int32.ofInt k = v)
    | .iadd => n == 1
    | .isub => n == 1
    | .imul => n == 1
    | .idiv => n == 1
    | .irem => n == 1
    | .ixor => n == 1
    | .newarray t => n == 2 && (match t with
      | .int => true
      | _ => false)
    | .iand => n == 1
    | .ior => n == 1
    | .ishl => n == 1
    | .ishr => n == 1
    | .i2l => n == 1
    | .i2b => n == 1
    | .i2s => n == 1
    | .i2c => n == 1
    | .l2i => n == 1
    | .ladd => n == 1
    | .land => n == 1
    | .lor => n == 1
    | .lcmp => n == 1
    | .lshl => n == 1
    | .lshr => n == 1
    | .lushr => n == 1
    | .dup => n == 1
    | .pop => n == 1
    | .dup_x1 => n == 1
    | .dup_x2 => n == 1
    | .dup2 => n == 1
    | .ifCond _ off => n == 3 && decide ((pc : Int) + off = (a : Int))
    | .if_icmp _ off => n == 3 && decide ((pc : Int) + off = (a : Int))
    | .goto off => n == 3 && decide ((pc : Int) + off = (a : Int))
    | .tableswitch d lo hi os => decide (0 ≤ (pc : Int) + d) && (os.toList.all (fun o => decide (0 ≤ (pc : Int) + o)) && decide (lo + os.size = hi + 1 ∧ lo = 0))
    | .lookupswitch d ps => decide (0 ≤ (pc : Int) + d) && (ps.toList.all (fun o => decide (0 ≤ (pc : Int) + o.2)) && (ps.toList.zip (ps.toList.drop 1)).all (fun (a, next) => a.1 < next.1))
    | .getfield k => n == 3 && (match vwCl[a]? with
        | some q => decide (b < q.2.2) && tp_wd (.fieldLink (tp_cls mid) k (q.2.1 b).1 (q.2.1 b).2.1 (q.2.1 b).2.2.1) w
        | none => false)
    | .putfield k => n == 3 && (match vwCl[a]? with
        | some q => decide (b < q.2.2) && (tp_wd (.fieldLink (tp_cls mid) k (q.2.1 b).1 (q.2.1 b).2.1 (q.2.1 b).2.2.1) w && (decide ((q.2.1 b).2.2.2 = false) && decide (parseFieldDescriptor (q.2.1 b).2.2.1 = some (match tp_isR a b with
          | true => .object RX1
          | false => .int))))
        | none => false)
    | .iaload => n == 1
    | .baload => n == 1
    | .aaload => n == 1
    | .iastore => n == 1
    | .bastore => n == 1
    | .arraylength => n == 1
    | .invokevirtual k => n == 3 && (tp_okc mid a && (decide (tp_rk a < 11) && tp_wd (.methodLink (tp_cls mid) k (tp_y a)) w))
    | .invokestatic k => n == 3 && (match a with
      | 900 => decide (1 ≤ tp_rf mid ∧ 21 ≤ tp_rl mid) && tp_wd (.methodLink (tp_cls mid) k Lib.Math.max.name) w
      | 901 => decide (1 ≤ tp_rf mid ∧ 21 ≤ tp_rl mid) && tp_wd (.methodLink (tp_cls mid) k Lib.Math.min.name) w
      | a => tp_okc mid a && (decide (tp_rk a = 50) && tp_wd (.methodLink (tp_cls mid) k (tp_y a)) w))
    | .ireturn => n == 1
    | .return_ => n == 1
    | _ => true
def tp_ok (mid pc : Nat) (x : tp_Ins) : Bool := decide (decode (tp_cc mid) pc = .ok (x.1, x.2.1)) && tp_ok2 mid pc x
def tp_okL (mid : Nat) : Nat → List tp_Ins → Bool
  | _, [] => true
  | pc, x :: is => tp_ok mid pc x && tp_okL mid (pc + x.2.1) is
/-- a method's own words -/
def tp_okM (i : Nat) : Bool := match tp_mpl.getD i (0, 0, 0, 0) with
  | (_, q2, q3, q4) => (match tp_rk i with
    | 50 => tp_wd (.static (tp_y i)) q2 && decide ((parseMethodDescriptor (tp_y i).desc).map (fun d => d.parameters.length) = some (tp_na i))
    | _ => tp_wd (.instanceMethod (tp_y i)) q2 && (tp_wd (.selects (tp_y i).cls (tp_y i) (tp_y i)) q3 && decide ((parseMethodDescriptor (tp_y i).desc).map (fun d => d.parameters.length) = some (tp_na i - 1) ∧ 0 < tp_na i)))
    && (tp_wd (.initialized (tp_y i).cls) q4 && (decide ((tp_y i).cls ≠ "java/lang/invoke/MethodHandle" ∧ (tp_y i).cls ≠ "java/lang/invoke/VarHandle") && (decide ((tp_y i).cls = tp_cls i) && (plainName (tp_y i).cls && (if tp_rk i < 11 then decide ((vwCl[tp_rk i]?).map (fun q => q.1) = some (tp_y i).cls) else true)))))
