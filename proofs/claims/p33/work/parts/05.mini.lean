/-! THE MINI MACHINE: what a stretch of bytecode does, as a proposition over symbolic locals, stack and store -/
def tp_chk (b : Bool) (P : Prop) : Prop := match b with
  | true => P
  | false => False
def tp_i1 (st : List Value) (f : Int32 → List Value → Prop) : Prop := match st with
  | .int x :: r => f x r
  | _ => False
def tp_i2 (st : List Value) (f : Int32 → Int32 → List Value → Prop) : Prop := match st with
  | .int y :: .int x :: r => f x y r
  | _ => False
def tp_l1 (st : List Value) (f : Int64 → List Value → Prop) : Prop := match st with
  | .long x :: r => f x r
  | _ => False
def tp_l2 (st : List Value) (f : Int64 → Int64 → List Value → Prop) : Prop := match st with
  | .long y :: .long x :: r => f x y r
  | _ => False
def tp_il (st : List Value) (f : Int64 → Int32 → List Value → Prop) : Prop := match st with
  | .int y :: .long x :: r => f x y r
  | _ => False
def tp_r1 (st : List Value) (f : Nat → List Value → Prop) : Prop := match st with
  | .ref o :: r => f o r
  | _ => False
def tp_ri (st : List Value) (f : Nat → Int32 → List Value → Prop) : Prop := match st with
  | .int j :: .ref o :: r => f o j r
  | _ => False
def tp_rii (st : List Value) (f : Nat → Int32 → Int32 → List Value → Prop) : Prop := match st with
  | .int v :: .int j :: .ref o :: r => f o j v r
  | _ => False
def tp_r2 (st : List Value) (f : Nat → Nat → List Value → Prop) : Prop := match st with
  | .ref v :: .ref o :: r => f o v r
  | _ => False
def tp_a1 (st : List Value) (f : Value → List Value → Prop) : Prop := match st with
  | v :: r => tp_chk (v.category == 1) (f v r)
  | _ => False
def tp_a2 (st : List Value) (f : Value → Value → List Value → Prop) : Prop := match st with
  | v :: u :: r => tp_chk (v.category == 1 && u.category == 1) (f v u r)
  | _ => False
def tp_a3 (st : List Value) (f : Value → Value → Value → List Value → Prop) : Prop := match st with
  | v :: u :: w :: r => tp_chk (v.category == 1 && u.category == 1 && w.category == 1) (f v u w r)
  | _ => False
def tp_gi (L : List Value) (k : Nat) (f : Int32 → Prop) : Prop := match L[k]? with
  | some (.int x) => f x
  | _ => False
def tp_gl (L : List Value) (k : Nat) (f : Int64 → Prop) : Prop := match L[k]? with
  | some (.long x) => f x
  | _ => False
def tp_gr (L : List Value) (k : Nat) (f : Nat → Prop) : Prop := match L[k]? with
  | some (.ref x) => f x
  | _ => False
def tp_ok1 (L : List Value) (k : Nat) : Bool := decide (k < L.length) && (k == 0 || !((L.getD (k - 1) .null).category == 2))
/-- the store, but v at place k of object o -/
def tp_up (f : Nat → Nat → Int32) (o k : Nat) (v : Int32) : Nat → Nat → Int32 := fun o' k' => if o' = o then (if k' = k then v else f o' k') else f o' k'
def tp_set (σ : tp_St) (o k : Nat) (v : Int32) : tp_St := (tp_up σ.1 o k v, σ.2)
def tp_len (σ : tp_St) (o : Nat) : Nat := if tp_kd o = 26 then (σ.1 89 0).toNatClampNeg else tp_ln o
/-- an array that is there: the class's own, one that the law has made, or the script -/
def tp_on (σ : tp_St) (o : Nat) : Prop := o < 58 ∨ o < σ.2.1 ∨ o = 90
def tp_bt (k : Nat) : FieldType := if k = 21 then .byte else .boolean
def tp_ent1 : List Value → List Value
  | [] => []
  | v :: r => if v.category = 2 then v :: .null :: tp_ent1 r else v :: tp_ent1 r
/-- a method's locals at its begin -/
def tp_ent (i : Nat) (av : List Value) : List Value := tp_ent1 av ++ List.replicate (tp_n i - (tp_ent1 av).length) .null
def tp_push (i : Nat) (r : Int32) (st : List Value) : List Value := match tp_ret i with
  | none => st
  | some _ => .int r :: st
def tp_rcv (v : Option Value) (k : Nat) : Bool := match v with
  | some (.ref o) => tp_kd o == k
  | _ => false
def tp_tl (K : Nat → Prop) (pc : Nat) (x : Int32) : Int → List Int → Prop
  | _, [] => True
  | lo, o :: os => (x.toInt = lo → K ((pc : Int) + o).toNat) ∧ tp_tl K pc x (lo + 1) os
def tp_lk (K : Nat → Prop) (pc : Nat) (x : Int32) (d : Int) : List (Int × Int) → Prop
  | [] => K ((pc : Int) + d).toNat
  | q :: qs => (x.toInt = q.1 → K ((pc : Int) + q.2).toNat) ∧ (¬ x.toInt = q.1 → tp_lk K pc x d qs)
abbrev tp_KT : Type := Nat → List Value → List Value → tp_St → Prop
abbrev tp_CT : Type := Nat → List Value → tp_St → (Int32 → tp_St → Prop) → Prop
def tp_four (j : Int32) (f : Nat → Prop) : Prop := (j = 0 → f 20) ∧ (j = 1 → f 21) ∧ (j = 2 → f 22) ∧ (j = 3 → f 23)
/-- fewer locals known -/
def tp_wk : List Value → List Value → Prop
  | [], [] => True
  | v :: r, w :: s => (v = .null ∨ v = w) ∧ tp_wk r s
  | _, _ => False
theorem tp_wk_rf : ∀ L : List Value, tp_wk L L
  | [] => trivial
  | _ :: r => ⟨Or.inr rfl, tp_wk_rf r⟩
def tp_is (a : Nat) (f g h : Prop) : Prop := match a with
  | 900 => f
  | 901 => g
  | _ => h
theorem tp_is_e {a : Nat} {f g h : Prop} (q : tp_is a f g h) (h1 : a ≠ 900) (h2 : a ≠ 901) : h := by
  unfold tp_is at q
  split at q
  · exact absurd rfl h1
  · exact absurd rfl h2
  · exact q
def tp_br (P : Prop) (K nx : Prop) : Prop := (P → K) ∧ (¬ P → nx)
/-- one instruction -/
def tp_I (mid : Nat) (K : tp_KT) (C : tp_CT) (post : Int32 → tp_St → Prop) (nx : List Value → List Value → tp_St → Prop) (x : tp_Ins) (pc : Nat) (L st : List Value) (σ : tp_St) : Prop :=
  match x.1 with
  | .iload_n k => tp_gi L k.val (fun v => nx L (.int v :: st) σ)
  | .iload k => tp_gi L k (fun v => nx L (.int v :: st) σ)
  | .lload_n k => tp_gl L k.val (fun v => nx L (.long v :: st) σ)
  | .lload k => tp_gl L k (fun v => nx L (.long v :: st) σ)
  | .aload_n k => tp_gr L k.val (fun v => nx L (.ref v :: st) σ)
  | .aload k => tp_gr L k (fun v => nx L (.ref v :: st) σ)
  | .iconst _ => nx L (.int x.2.2.1 :: st) σ
  | .bipush _ => nx L (.int x.2.2.1 :: st) σ
  | .sipush _ => nx L (.int x.2.2.1 :: st) σ
  | .ldc _ => nx L (.int x.2.2.1 :: st) σ
  | .lconst d => nx L (.long (Int64.ofNat d.val) :: st) σ
  | .ldc2_w _ => nx L (.long (Int64.ofNat x.2.2.2.1) :: st) σ
  | .istore_n k => tp_i1 st (fun v r => tp_chk (tp_ok1 L k.val) (nx (L.set k.val (.int v)) r σ))
  | .istore k => tp_i1 st (fun v r => tp_chk (tp_ok1 L k) (nx (L.set k (.int v)) r σ))
  | .astore_n k => tp_r1 st (fun v r => tp_chk (tp_ok1 L k.val) (nx (L.set k.val (.ref v)) r σ))
  | .astore k => tp_r1 st (fun v r => tp_chk (tp_ok1 L k) (nx (L.set k (.ref v)) r σ))
  | .lstore k => tp_l1 st (fun v r => tp_chk (tp_ok1 L k && decide (k + 1 < L.length)) (nx ((L.set k (.long v)).set (k + 1) .null) r σ))
  | .iinc k _ => tp_gi L k (fun v => tp_chk (tp_ok1 L k) (nx (L.set k (.int (v + x.2.2.1))) st σ))
  | .iadd => tp_i2 st (fun u v r => nx L (.int (u + v) :: r) σ)
  | .isub => tp_i2 st (fun u v r => nx L (.int (u - v) :: r) σ)
  | .imul => tp_i2 st (fun u v r => nx L (.int (u * v) :: r) σ)
  | .idiv => tp_i2 st (fun u v r => (¬ v = 0) ∧ nx L (.int (u / v) :: r) σ)
  | .irem => tp_i2 st (fun u v r => (¬ v = 0) ∧ nx L (.int (u - u / v * v) :: r) σ)
  | .ixor => tp_i2 st (fun u v r => nx L (.int (u ^^^ v) :: r) σ)
  | .newarray _ => tp_i1 st (fun v r => tp_chk (mid == tp_law && (r.isEmpty && decide (pc < 1000000))) (v = Int32.ofNat (tp_ln σ.2.1) ∧ tp_wk (tp_exL pc) L ∧ post (Int32.ofNat pc) σ))
  | .iand => tp_i2 st (fun u v r => nx L (.int (u &&& v) :: r) σ)
  | .ior => tp_i2 st (fun u v r => nx L (.int (u ||| v) :: r) σ)
  | .ishl => tp_i2 st (fun u v r => nx L (.int (u <<< (v &&& 31)) :: r) σ)
  | .ishr => tp_i2 st (fun u v r => nx L (.int (u >>> (v &&& 31)) :: r) σ)
  | .i2l => tp_i1 st (fun v r => nx L (.long v.toInt64 :: r) σ)
  | .i2b => tp_i1 st (fun v r => nx L (.int v.toInt8.toInt32 :: r) σ)
  | .i2s => tp_i1 st (fun v r => nx L (.int v.toInt16.toInt32 :: r) σ)
  | .i2c => tp_i1 st (fun v r => nx L (.int (v.toUInt32 % 65536).toInt32 :: r) σ)
  | .l2i => tp_l1 st (fun v r => nx L (.int v.toInt32 :: r) σ)
  | .ladd => tp_l2 st (fun u v r => nx L (.long (u + v) :: r) σ)
  | .land => tp_l2 st (fun u v r => nx L (.long (u &&& v) :: r) σ)
  | .lor => tp_l2 st (fun u v r => nx L (.long (u ||| v) :: r) σ)
  | .lcmp => tp_l2 st (fun u v r => nx L (.int (lg_cmp u v) :: r) σ)
  | .lshl => tp_il st (fun u v r => nx L (.long (u <<< (v.toInt64 &&& 63)) :: r) σ)
  | .lshr => tp_il st (fun u v r => nx L (.long (u >>> (v.toInt64 &&& 63)) :: r) σ)
  | .lushr => tp_il st (fun u v r => nx L (.long (u.toUInt64 >>> (v.toInt64.toUInt64 &&& Int64.toUInt64 63)).toInt64 :: r) σ)
  | .dup => tp_a1 st (fun v r => nx L (v :: v :: r) σ)
  | .pop => tp_a1 st (fun _ r => nx L r σ)
  | .dup_x1 => tp_a2 st (fun v u r => nx L (v :: u :: v :: r) σ)
  | .dup_x2 => tp_a3 st (fun v u w r => nx L (v :: u :: w :: v :: r) σ)
  | .dup2 => tp_a2 st (fun v u r => nx L (v :: u :: v :: u :: r) σ)
  | .ifCond cd _ => match cd with
    | .eq => tp_i1 st (fun v r => tp_br (v = 0) (K x.2.2.2.1 L r σ) (nx L r σ))
    | .ne => tp_i1 st (fun v r => tp_br (v = 0) (nx L r σ) (K x.2.2.2.1 L r σ))
    | .lt => tp_i1 st (fun v r => tp_br (v < 0) (K x.2.2.2.1 L r σ) (nx L r σ))
    | .ge => tp_i1 st (fun v r => tp_br (0 ≤ v) (K x.2.2.2.1 L r σ) (nx L r σ))
    | .gt => tp_i1 st (fun v r => tp_br (0 < v) (K x.2.2.2.1 L r σ) (nx L r σ))
    | .le => tp_i1 st (fun v r => tp_br (v ≤ 0) (K x.2.2.2.1 L r σ) (nx L r σ))
  | .if_icmp cd _ => match cd with
    | .eq => tp_i2 st (fun u v r => tp_br (u = v) (K x.2.2.2.1 L r σ) (nx L r σ))
    | .ne => tp_i2 st (fun u v r => tp_br (u = v) (nx L r σ) (K x.2.2.2.1 L r σ))
    | .lt => tp_i2 st (fun u v r => tp_br (u < v) (K x.2.2.2.1 L r σ) (nx L r σ))
    | .ge => tp_i2 st (fun u v r => tp_br (v ≤ u) (K x.2.2.2.1 L r σ) (nx L r σ))
    | .gt => tp_i2 st (fun u v r => tp_br (v < u) (K x.2.2.2.1 L r σ) (nx L r σ))
    | .le => tp_i2 st (fun u v r => tp_br (u ≤ v) (K x.2.2.2.1 L r σ) (nx L r σ))
  | .goto _ => K x.2.2.2.1 L st σ
  | .tableswitch d lo hi os => tp_i1 st (fun v r => ((v.toInt < lo ∨ hi < v.toInt) → K ((pc : Int) + d).toNat L r σ) ∧ tp_tl (fun t => K t L r σ) pc v lo os.toList)
  | .lookupswitch d ps => tp_i1 st (fun v r => tp_lk (fun t => K t L r σ) pc v d ps.toList)
  | .getfield _ => tp_r1 st (fun o r => tp_chk (tp_kd o == x.2.2.2.1 && decide (x.2.2.2.1 < 20)) (match tp_isR x.2.2.2.1 x.2.2.2.2.1 with
      | false => nx L (.int (σ.1 o x.2.2.2.2.1) :: r) σ
      | true => nx L (.ref (tp_rr σ o x.2.2.2.2.1) :: r) σ))
  | .putfield _ => match tp_isR x.2.2.2.1 x.2.2.2.2.1 with
    | false => tp_ri st (fun o v r => tp_chk (tp_kd o == x.2.2.2.1) (nx L r (tp_set σ o x.2.2.2.2.1 v)))
    | true => False
  | .iaload => tp_ri st (fun o j r => tp_chk (tp_kd o == 20 || tp_kd o == 26) (tp_on σ o ∧ vp_in j (tp_len σ o) ∧ nx L (.int (σ.1 o j.toNatClampNeg) :: r) σ))
  | .baload => tp_ri st (fun o j r => tp_chk (tp_kd o == 21 || tp_kd o == 22) (vp_in j (tp_ln o) ∧ nx L (.int (σ.1 o j.toNatClampNeg) :: r) σ))
  | .aaload => tp_ri st (fun o j r => match tp_kd o with
    | 23 => vp_in j 4 ∧ tp_four j (fun t => nx L (.ref t :: r) σ)
    | _ => tp_chk (tp_kd o == 24) (vp_in j (tp_ln o) ∧ nx L (.ref (tp_rr σ o j.toNatClampNeg) :: r) σ))
  | .iastore => tp_rii st (fun o j v r => tp_chk (tp_kd o == 20) (tp_on σ o ∧ vp_in j (tp_ln o) ∧ nx L r (tp_set σ o j.toNatClampNeg v)))
  | .bastore => tp_rii st (fun o j v r => tp_chk (tp_kd o == 21 || tp_kd o == 22) (vp_in j (tp_ln o) ∧ nx L r (tp_set σ o j.toNatClampNeg (vp_nar (tp_bt (tp_kd o)) v))))
  | .arraylength => tp_r1 st (fun o r => tp_chk (tp_kd o == 26) (nx L (.int (Int32.ofNat (tp_len σ o)) :: r) σ))
  | .invokevirtual _ => tp_chk (decide (tp_na x.2.2.2.1 = x.2.2.2.2.1 ∧ x.2.2.2.2.1 ≤ st.length ∧ ((st.drop x.2.2.2.2.1).map fun v => v.category).sum ≤ 8 ∧ (tp_ent1 (st.take x.2.2.2.2.1).reverse).length ≤ tp_n x.2.2.2.1) && tp_rcv (st[x.2.2.2.2.1 - 1]?) (tp_rk x.2.2.2.1)) (C x.2.2.2.1 (st.take x.2.2.2.2.1).reverse σ (fun r σ' => nx L (tp_push x.2.2.2.1 r (st.drop x.2.2.2.2.1)) σ'))
  | .invokestatic _ => tp_is x.2.2.2.1 (tp_i2 st (fun u v r => tp_chk (decide ((r.map fun v => v.category).sum ≤ 8)) (nx L (.int (if u < v then v else u) :: r) σ))) (tp_i2 st (fun u v r => tp_chk (decide ((r.map fun v => v.category).sum ≤ 8)) (nx L (.int (if v < u then v else u) :: r) σ)))
    (tp_chk (decide (tp_na x.2.2.2.1 = x.2.2.2.2.1 ∧ x.2.2.2.2.1 ≤ st.length ∧ ((st.drop x.2.2.2.2.1).map fun v => v.category).sum ≤ 8 ∧ (tp_ent1 (st.take x.2.2.2.2.1).reverse).length ≤ tp_n x.2.2.2.1)) (C x.2.2.2.1 (st.take x.2.2.2.2.1).reverse σ (fun r σ' => nx L (tp_push x.2.2.2.1 r (st.drop x.2.2.2.2.1)) σ')))
  | .ireturn => match tp_ret mid with
    | none => False
    | some t => tp_i1 st (fun v r => tp_chk r.isEmpty (narrow t (.int v) = .int v ∧ post v σ))
  | .return_ => match tp_ret mid with
    | none => tp_chk st.isEmpty (post 0 σ)
    | some _ => False
  | _ => False
/-- a stretch -/
def tp_B (mid : Nat) (K : tp_KT) (C : tp_CT) (post : Int32 → tp_St → Prop) : List tp_Ins → Nat → List Value → List Value → tp_St → Prop
  | [], pc, L, st, σ => K pc L st σ
  | x :: is, pc, L, st, σ => tp_I mid K C post (fun L st σ => tp_B mid K C post is (pc + x.2.1) L st σ) x pc L st σ
abbrev tp_XT : Type := Nat → Nat → List Value → List Value → tp_St → (Int32 → tp_St → Prop) → Prop
def tp_Mono (X : tp_XT) : Prop := ∀ i pc L st σ p p', (∀ r σ, p r σ → p' r σ) → X i pc L st σ p → X i pc L st σ p'
def tp_Cl (X : tp_XT) : Prop := ∀ i pc L st σ post, tp_B i (fun t L st σ => ∃ L', tp_wk L' L ∧ X i t L' st σ post) (fun a av σ p => X a 0 (tp_ent a av) [] σ p) post (tp_blk i pc) pc L st σ → X i pc L st σ post
/-- from here the method ends, with 'post' -/
def tp_E : tp_XT := fun i pc L st σ post => ∀ X : tp_XT, tp_Mono X → tp_Cl X → X i pc L st σ post
section TPM
variable {st L : List Value} {k : Nat}
theorem tp_chk_m {b : Bool} {P P' : Prop} (h : P → P') : tp_chk b P → tp_chk b P' := by cases b <;> first | exact id | exact h
theorem tp_i1_m {f g : Int32 → List Value → Prop} (h : ∀ x r, f x r → g x r) : tp_i1 st f → tp_i1 st g := by unfold tp_i1; split <;> first | exact h _ _ | exact id
theorem tp_i2_m {f g : Int32 → Int32 → List Value → Prop} (h : ∀ x y r, f x y r → g x y r) : tp_i2 st f → tp_i2 st g := by unfold tp_i2; split <;> first | exact h _ _ _ | exact id
theorem tp_l1_m {f g : Int64 → List Value → Prop} (h : ∀ x r, f x r → g x r) : tp_l1 st f → tp_l1 st g := by unfold tp_l1; split <;> first | exact h _ _ | exact id
theorem tp_l2_m {f g : Int64 → Int64 → List Value → Prop} (h : ∀ x y r, f x y r → g x y r) : tp_l2 st f → tp_l2 st g := by unfold tp_l2; split <;> first | exact h _ _ _ | exact id
theorem tp_il_m {f g : Int64 → Int32 → List Value → Prop} (h : ∀ x y r, f x y r → g x y r) : tp_il st f → tp_il st g := by unfold tp_il; split <;> first | exact h _ _ _ | exact id
theorem tp_r1_m {f g : Nat → List Value → Prop} (h : ∀ x r, f x r → g x r) : tp_r1 st f → tp_r1 st g := by unfold tp_r1; split <;> first | exact h _ _ | exact id
theorem tp_ri_m {f g : Nat → Int32 → List Value → Prop} (h : ∀ x y r, f x y r → g x y r) : tp_ri st f → tp_ri st g := by unfold tp_ri; split <;> first | exact h _ _ _ | exact id
theorem tp_rii_m {f g : Nat → Int32 → Int32 → List Value → Prop} (h : ∀ x y z r, f x y z r → g x y z r) : tp_rii st f → tp_rii st g := by unfold tp_rii; split <;> first | exact h _ _ _ _ | exact id
theorem tp_r2_m {f g : Nat → Nat → List Value → Prop} (h : ∀ x y r, f x y r → g x y r) : tp_r2 st f → tp_r2 st g := by unfold tp_r2; split <;> first | exact h _ _ _ | exact id
theorem tp_a1_m {f g : Value → List Value → Prop} (h : ∀ x r, f x r → g x r) : tp_a1 st f → tp_a1 st g := by unfold tp_a1; split <;> first | exact tp_chk_m (h _ _) | exact id
theorem tp_a2_m {f g : Value → Value → List Value → Prop} (h : ∀ x y r, f x y r → g x y r) : tp_a2 st f → tp_a2 st g := by unfold tp_a2; split <;> first | exact tp_chk_m (h _ _ _) | exact id
theorem tp_a3_m {f g : Value → Value → Value → List Value → Prop} (h : ∀ x y z r, f x y z r → g x y z r) : tp_a3 st f → tp_a3 st g := by unfold tp_a3; split <;> first | exact tp_chk_m (h _ _ _ _) | exact id
theorem tp_gi_m {f g : Int32 → Prop} (h : ∀ x, f x → g x) : tp_gi L k f → tp_gi L k g := by unfold tp_gi; split <;> first | exact h _ | exact id
theorem tp_gl_m {f g : Int64 → Prop} (h : ∀ x, f x → g x) : tp_gl L k f → tp_gl L k g := by unfold tp_gl; split <;> first | exact h _ | exact id
theorem tp_gr_m {f g : Nat → Prop} (h : ∀ x, f x → g x) : tp_gr L k f → tp_gr L k g := by unfold tp_gr; split <;> first | exact h _ | exact id
theorem tp_br_m {P A B A' B' : Prop} (h : A → A') (h2 : B → B') : tp_br P A B → tp_br P A' B' := fun q => ⟨fun z => h (q.1 z), fun z => h2 (q.2 z)⟩
theorem tp_is_m {b : Nat} {f g h f' g' h' : Prop} (h1 : f → f') (h2 : g → g') (h3 : h → h') : tp_is b f g h → tp_is b f' g' h' := by unfold tp_is; split <;> first | exact h1 | exact h2 | exact h3
theorem tp_four_m {t : Int32} {f g : Nat → Prop} (h : ∀ x, f x → g x) : tp_four t f → tp_four t g := fun q => ⟨fun z => h _ (q.1 z), fun z => h _ (q.2.1 z), fun z => h _ (q.2.2.1 z), fun z => h _ (q.2.2.2 z)⟩
theorem tp_tl_m {K K' : Nat → Prop} (h : ∀ t, K t → K' t) {pc : Nat} {x : Int32} : ∀ (os : List Int) (lo : Int), tp_tl K pc x lo os → tp_tl K' pc x lo os
  | [], _ => id
  | _ :: os, _ => fun q => ⟨fun z => h _ (q.1 z), tp_tl_m h os _ q.2⟩
theorem tp_lk_m {K K' : Nat → Prop} (h : ∀ t, K t → K' t) {pc : Nat} {x : Int32} {d : Int} : ∀ (os : List (Int × Int)), tp_lk K pc x d os → tp_lk K' pc x d os
  | [] => h _
  | _ :: os => fun q => ⟨fun z => h _ (q.1 z), fun z => tp_lk_m h os (q.2 z)⟩
end TPM
set_option maxHeartbeats 4000000 in
theorem tp_I_m {mid : Nat} {K K' : tp_KT} {C C' : tp_CT} {post post' : Int32 → tp_St → Prop} {nx nx' : List Value → List Value → tp_St → Prop} (hK : ∀ t L st σ, K t L st σ → K' t L st σ) (hC : ∀ a av σ p p', (∀ r σ, p r σ → p' r σ) → C a av σ p → C' a av σ p')
    (hp : ∀ r σ, post r σ → post' r σ) (hn : ∀ L st σ, nx L st σ → nx' L st σ) (x : tp_Ins) (pc : Nat) (L st : List Value) (σ : tp_St) : tp_I mid K C post nx x pc L st σ → tp_I mid K' C' post' nx' x pc L st σ := by
  obtain ⟨i, n, v, a, b, w⟩ := x
  cases i <;> first
    | exact False.elim
    | exact hn _ _ _
    | exact hK _ _ _ _
    | exact tp_gi_m fun _ => hn _ _ _
    | exact tp_gl_m fun _ => hn _ _ _
    | exact tp_gr_m fun _ => hn _ _ _
    | exact tp_gi_m fun _ => tp_chk_m (hn _ _ _)
    | exact tp_i1_m fun _ _ => hn _ _ _
    | exact tp_i1_m fun _ _ => tp_chk_m (hn _ _ _)
    | exact tp_l1_m fun _ _ => hn _ _ _
    | exact tp_l1_m fun _ _ => tp_chk_m (hn _ _ _)
    | exact tp_i2_m fun _ _ _ => hn _ _ _
    | exact tp_i2_m fun _ _ _ => And.imp_right (hn _ _ _)
    | exact tp_l2_m fun _ _ _ => hn _ _ _
    | exact tp_il_m fun _ _ _ => hn _ _ _
    | exact tp_a1_m fun _ _ => hn _ _ _
    | exact tp_a2_m fun _ _ _ => hn _ _ _
    | exact tp_a3_m fun _ _ _ _ => hn _ _ _
    | exact tp_r1_m fun _ _ => tp_chk_m (hn _ _ _)
    | exact tp_ri_m fun _ _ _ => tp_chk_m (And.imp_right (hn _ _ _))
    | exact tp_rii_m fun _ _ _ _ => tp_chk_m (And.imp_right (hn _ _ _))
    | exact tp_i1_m fun _ _ => And.imp (fun q z => hK _ _ _ _ (q z)) (tp_tl_m (fun _ => hK _ _ _ _) _ _)
    | exact tp_i1_m fun _ _ => tp_lk_m (fun _ => hK _ _ _ _) _
    | exact tp_chk_m (hC _ _ _ _ _ (fun _ _ => hn _ _ _))
    | exact tp_is_m (tp_i2_m fun _ _ _ => tp_chk_m (hn _ _ _)) (tp_i2_m fun _ _ _ => tp_chk_m (hn _ _ _)) (tp_chk_m (hC _ _ _ _ _ (fun _ _ => hn _ _ _)))
    | (rename_i cd _; cases cd <;> first
        | exact tp_i1_m fun _ _ => tp_br_m (hK _ _ _ _) (hn _ _ _)
        | exact tp_i1_m fun _ _ => tp_br_m (hn _ _ _) (hK _ _ _ _)
        | exact tp_i2_m fun _ _ _ => tp_br_m (hn _ _ _) (hK _ _ _ _)
        | exact tp_i2_m fun _ _ _ => tp_br_m (hK _ _ _ _) (hn _ _ _))
    | exact tp_ri_m fun _ _ _ => tp_chk_m (And.imp_right (And.imp_right (hn _ _ _)))
    | exact tp_rii_m fun _ _ _ _ => tp_chk_m (And.imp_right (And.imp_right (hn _ _ _)))
    | exact tp_i1_m fun _ _ => tp_chk_m (And.imp_right (And.imp_right (hp _ _)))
    | (simp only [tp_I]; split <;> first
        | exact False.elim
        | exact id
        | exact tp_ri_m fun _ _ _ => tp_chk_m (hn _ _ _)
        | exact tp_chk_m (hp _ _)
        | exact tp_i1_m fun _ _ => tp_chk_m (And.imp_right (hp _ _)))
    | (simp only [tp_I]; refine tp_ri_m fun _ _ _ => ?_; split <;> first
        | exact And.imp_right (tp_four_m fun _ => hn _ _ _)
        | exact tp_chk_m (And.imp_right (hn _ _ _)))
    | (simp only [tp_I]; refine tp_r1_m fun _ _ => tp_chk_m ?_; split <;> exact hn _ _ _)
theorem tp_B_m {mid : Nat} {K K' : tp_KT} {C C' : tp_CT} {post post' : Int32 → tp_St → Prop} (hK : ∀ t L st σ, K t L st σ → K' t L st σ) (hC : ∀ a av σ p p', (∀ r σ, p r σ → p' r σ) → C a av σ p → C' a av σ p')
    (hp : ∀ r σ, post r σ → post' r σ) : ∀ (is : List tp_Ins) (pc : Nat) (L st : List Value) (σ : tp_St), tp_B mid K C post is pc L st σ → tp_B mid K' C' post' is pc L st σ
  | [], _, _, _, _ => hK _ _ _ _
  | x :: is, pc, L, st, σ => tp_I_m hK hC hp (fun _ _ _ => tp_B_m hK hC hp is _ _ _ _) x pc L st σ
theorem tp_E_mono : tp_Mono tp_E := fun i pc L st σ p p' hp h X hm hc => hm i pc L st σ p p' hp (h X hm hc)
theorem tp_E_step {i pc : Nat} {L st : List Value} {σ : tp_St} {post : Int32 → tp_St → Prop} (h : tp_B i (fun t L st σ => ∃ L', tp_wk L' L ∧ tp_E i t L' st σ post) (fun a av σ p => tp_E a 0 (tp_ent a av) [] σ p) post (tp_blk i pc) pc L st σ) : tp_E i pc L st σ post := fun X hm hc =>
  hc i pc L st σ post (tp_B_m (fun t L st σ ⟨L', q1, q⟩ => ⟨L', q1, q X hm hc⟩) (fun a av σ p p' hp q => hm _ _ _ _ _ _ _ hp (q X hm hc)) (fun _ _ q => q) _ _ _ _ _ h)
