/-! ===== the abstract machine: cells by number, whole numbers as integers ===== -/
abbrev zV : Type := Option (Int ⊕ Int ⊕ Nat)
abbrev vI (a : Int) : zV := some (.inl a)
abbrev vL (a : Int) : zV := some (.inr (.inl a))
abbrev vR (q : Nat) : zV := some (.inr (.inr q))
/-- the memory of numbers, that of references, how many cells there are, the script's length -/
abbrev zH : Type := (Nat → Int → Int) × (Nat → Int → Nat) × Nat × Nat
/-- what an instruction comes to: goes on; a call (callee, its values, where it goes on, the rest of the stack); an answer; nothing -/
abbrev zA : Type := (Nat × List zV × List zV × zH) ⊕ ((Nat × List zV × Nat × List zV) ⊕ (Option zV ⊕ Unit))
abbrev zno : zA := .inr (.inr (.inr ()))
abbrev zgo (pc : Nat) (L st : List zV) (h : zH) : zA := .inl (pc, L, st, h)
def wr (a : Int) : Int := (Int32.ofInt a).toInt
def wb (a : Int) : Int := (Int32.ofInt a).toInt8.toInt32.toInt
def wc (a : Int) : Int := ((Int32.ofInt a).toUInt32 % 65536).toInt32.toInt
def wl (a : Int) : Int := (Int64.ofInt a).toInt
def w2 (f : Int32 → Int32 → Int32) (a b : Int) : Int := (f (Int32.ofInt a) (Int32.ofInt b)).toInt
def zusr (a b : Int32) : Int32 := (a.toUInt32 >>> (b.toUInt32 &&& Int32.toUInt32 31)).toInt32
def sI (I : Nat → Int → Int) (p : Nat) (k x : Int) : Nat → Int → Int := fun q j => if q = p ∧ j = k then x else I q j
def sR (R : Nat → Int → Nat) (p : Nat) (k : Int) (x : Nat) : Nat → Int → Nat := fun q j => if q = p ∧ j = k then x else R q j
def zfill (I : Nat → Int → Int) (p : Nat) : Nat → Int → Int := fun q j => if q = p then 0 else I q j
def zfilR (R : Nat → Int → Nat) (p : Nat) : Nat → Int → Nat := fun q j => if q = p then 0 else R q j
def zcpy (I : Nat → Int → Int) (s : Nat) (sp : Int) (d : Nat) (dp n : Int) : Nat → Int → Int := fun q j => if q = d ∧ dp ≤ j ∧ j < dp + n then I s (sp + (j - dp)) else I q j
def zal (h : zH) (p : Nat) : Nat := if p = 899 then h.2.2.2 else (zkd p).2
/-- a cell of the world, or one that is only read -/
abbrev zok (h : zH) (p : Nat) : Prop := p ≤ h.2.2.1 ∨ 899 ≤ p
def zcnd (c : ClassFile.Cond) (a b : Int) : Bool := match c with
  | .eq => decide (a = b) | .ne => decide (a ≠ b) | .lt => decide (a < b) | .ge => decide (b ≤ a) | .gt => decide (b < a) | .le => decide (a ≤ b)
def zjmp (pc : Nat) (off : Int) (L st : List zV) (h : zH) : zA := if 0 ≤ (pc : Int) + off then zgo ((pc : Int) + off).toNat L st h else zno
def zbin (f : Int → Int → Int) (pc : Nat) (L st : List zV) (h : zH) : zA := match st with
  | some (.inl b) :: some (.inl a) :: st => zgo pc L (vI (f a b) :: st) h
  | _ => zno
def zdv (f : Int → Int → Int) (pc : Nat) (L st : List zV) (h : zH) : zA := match st with
  | some (.inl b) :: some (.inl a) :: st => if b = 0 then zno else zgo pc L (vI (f a b) :: st) h
  | _ => zno
def zldI (k pc : Nat) (L st : List zV) (h : zH) : zA := match L[k]? with
  | some (some (.inl a)) => zgo pc L (vI a :: st) h
  | _ => zno
def zldL (k pc : Nat) (L st : List zV) (h : zH) : zA := match L[k]? with
  | some (some (.inr (.inl a))) => zgo pc L (vL a :: st) h
  | _ => zno
def zldR (k pc : Nat) (L st : List zV) (h : zH) : zA := match L[k]? with
  | some (some (.inr (.inr q))) => zgo pc L (vR q :: st) h
  | _ => zno
def znl (v : zV) : Bool := match v with
  | some (.inr (.inl _)) => false
  | _ => true
/-- no long ends at place k -/
def zsO (m : Nat) (L : List zV) (k : Nat) : Bool := !zhl m || (match k with | 0 => true | j + 1 => znl (L.getD j none))
def zstI (m k pc : Nat) (L st : List zV) (h : zH) : zA := match st with
  | some (.inl a) :: st => if k < L.length ∧ zsO m L k = true then zgo pc (L.set k (vI a)) st h else zno
  | _ => zno
def zstR (m k pc : Nat) (L st : List zV) (h : zH) : zA := match st with
  | some (.inr (.inr q)) :: st => if k < L.length ∧ zsO m L k = true then zgo pc (L.set k (vR q)) st h else zno
  | _ => zno
def zstJ (m k pc : Nat) (L st : List zV) (h : zH) : zA := match st with
  | some (.inr (.inl a)) :: st => if k + 1 < L.length ∧ zhl m = true ∧ zsO m L k = true then zgo pc ((L.set k (vL a)).set (k + 1) none) st h else zno
  | _ => zno
def zinc (m k : Nat) (n : Int) (pc : Nat) (L st : List zV) (h : zH) : zA := match L[k]? with
  | some (some (.inl a)) => if zsO m L k = true then zgo pc (L.set k (vI (wr (a + n)))) st h else zno
  | _ => zno
def zif (c : ClassFile.Cond) (off : Int) (pc len : Nat) (L st : List zV) (h : zH) : zA := match st with
  | some (.inl a) :: st => if 0 ≤ (pc : Int) + off then (if zcnd c a 0 = true then zgo ((pc : Int) + off).toNat L st h else zgo (pc + len) L st h) else zno
  | _ => zno
def zicmp (c : ClassFile.Cond) (off : Int) (pc len : Nat) (L st : List zV) (h : zH) : zA := match st with
  | some (.inl b) :: some (.inl a) :: st => if 0 ≤ (pc : Int) + off then (if zcnd c a b = true then zgo ((pc : Int) + off).toNat L st h else zgo (pc + len) L st h) else zno
  | _ => zno
def zifnull (off : Int) (pc len : Nat) (L st : List zV) (h : zH) : zA := match st with
  | some (.inr (.inr q)) :: st => if q = 0 then zjmp pc off L st h else if q = 1200 then zno else zgo (pc + len) L st h
  | _ => zno
def ztab (dflt lo hi : Int) (offs : Array Int) (pc : Nat) (L st : List zV) (h : zH) : zA := match st with
  | some (.inl a) :: st => if a < lo ∨ hi < a then zjmp pc dflt L st h else (match offs[(a - lo).toNat]? with
    | some off => zjmp pc off L st h
    | none => zno)
  | _ => zno
def zlook (dflt : Int) (ps : Array (Int × Int)) (pc : Nat) (L st : List zV) (h : zH) : zA := match st with
  | some (.inl a) :: st => if (ps.toList.zip (ps.toList.drop 1)).all (fun (a, next) => a.1 < next.1) = true then zjmp pc (Op.lookupswitch.offset ps.toList dflt a) L st h else zno
  | _ => zno
def zget (o idx pc : Nat) (L st : List zV) (h : zH) : zA := match zfl o idx, st with
  | some (ci, k, t), some (.inr (.inr p)) :: st => if zkd p = (0, ci) ∧ zok h p then (if t = 2 then zgo pc L (vR (h.2.1 p k) :: st) h else zgo pc L (vI (h.1 p k) :: st) h) else zno
  | _, _ => zno
def zput (m o idx pc : Nat) (L st : List zV) (h : zH) : zA := match zfl o idx, st with
  | some (ci, k, t), some (.inl a) :: some (.inr (.inr p)) :: st => if zkd p = (0, ci) ∧ p ≤ h.2.2.1 ∧ (t = 0 ∨ t = 1 ∧ (a = 0 ∨ a = 1)) ∧ (zfin ci k = false ∨ zin m = true ∧ zo m = ci) then zgo pc L st (sI h.1 p k a, h.2) else zno
  | some (ci, k, t), some (.inr (.inr q)) :: some (.inr (.inr p)) :: st => if zkd p = (0, ci) ∧ p ≤ h.2.2.1 ∧ t = 2 ∧ q ≤ h.2.2.1 ∧ (zfin ci k = false ∨ zin m = true ∧ zo m = ci) then zgo pc L st (h.1, sR h.2.1 p k q, h.2.2) else zno
  | _, _ => zno
def zgst (o idx pc : Nat) (L st : List zV) (h : zH) : zA := match zgs o idx with
  | some c => if c = -1 then zgo pc L (vI 1 :: st) h else if 0 ≤ c then zgo pc L (vR c.toNat :: st) h else zno
  | none => zno
/-- a load from an array whose kind is one of ks -/
def zald (ks : List Nat) (pc : Nat) (L st : List zV) (h : zH) : zA := match st with
  | some (.inl i) :: some (.inr (.inr p)) :: st => if (zkd p).1 ∈ ks ∧ zok h p ∧ 0 ≤ i ∧ i < zal h p then (if (zkd p).1 ≤ 3 then zgo pc L (vI (h.1 p i) :: st) h else if (zkd p).1 = 4 then zgo pc L (vL (h.1 p i) :: st) h else zgo pc L (vR (h.2.1 p i) :: st) h) else zno
  | _ => zno
def zast (k : Nat) (pc : Nat) (L st : List zV) (h : zH) : zA := match st with
  | some (.inl x) :: some (.inl i) :: some (.inr (.inr p)) :: st => if (zkd p).1 = k ∧ p ≤ h.2.2.1 ∧ 0 ≤ i ∧ i < (zkd p).2 then zgo pc L st (sI h.1 p i x, h.2) else zno
  | _ => zno
def zbast (pc : Nat) (L st : List zV) (h : zH) : zA := match st with
  | some (.inl x) :: some (.inl i) :: some (.inr (.inr p)) :: st => if p ≤ h.2.2.1 ∧ 0 ≤ i ∧ i < (zkd p).2 then (if (zkd p).1 = 2 then zgo pc L st (sI h.1 p i (wb x), h.2) else if (zkd p).1 = 3 ∧ (x = 0 ∨ x = 1) then zgo pc L st (sI h.1 p i x, h.2) else zno) else zno
  | _ => zno
def zlast (pc : Nat) (L st : List zV) (h : zH) : zA := match st with
  | some (.inr (.inl x)) :: some (.inl i) :: some (.inr (.inr p)) :: st => if (zkd p).1 = 4 ∧ p ≤ h.2.2.1 ∧ 0 ≤ i ∧ i < (zkd p).2 ∧ -2147483648 ≤ x ∧ x ≤ 2147483647 then zgo pc L st (sI h.1 p i x, h.2) else zno
  | _ => zno
/-- Players into an array of kind 5, Sheets into one of kind 6 -/
def zaast (pc : Nat) (L st : List zV) (h : zH) : zA := match st with
  | some (.inr (.inr q)) :: some (.inl i) :: some (.inr (.inr p)) :: st => if ((zkd p).1 = 5 ∧ zkd q = (0, 4) ∨ (zkd p).1 = 6 ∧ zkd q = (0, 8)) ∧ q ≤ h.2.2.1 ∧ p ≤ h.2.2.1 ∧ 0 ≤ i ∧ i < (zkd p).2 then zgo pc L st (h.1, sR h.2.1 p i q, h.2.2) else zno
  | _ => zno
def zlen (pc : Nat) (L st : List zV) (h : zH) : zA := match st with
  | some (.inr (.inr p)) :: st => if 1 ≤ (zkd p).1 ∧ (zkd p).1 ≤ 6 ∧ zok h p ∧ zal h p < 2147483648 then zgo pc L (vI (zal h p) :: st) h else zno
  | _ => zno
/-- a new cell: it has the next number, all is 0 in it -/
def zmk (h : zH) : zH := (zfill h.1 (h.2.2.1 + 1), zfilR h.2.1 (h.2.2.1 + 1), h.2.2.1 + 1, h.2.2.2)
def znew (o idx pc : Nat) (L st : List zV) (h : zH) : zA := match zcn o idx with
  | some ci => if zkd (h.2.2.1 + 1) = (0, ci) ∧ h.2.2.1 < zNP then zgo pc L (vR (h.2.2.1 + 1) :: st) (zmk h) else zno
  | none => zno
def zat (t : ArrayType) : Nat := match t with
  | .int => 1 | .byte => 2 | .boolean => 3 | .long => 4 | _ => 8
def znewa (t : ArrayType) (pc : Nat) (L st : List zV) (h : zH) : zA := match st with
  | some (.inl a) :: st => if (zkd (h.2.2.1 + 1)).1 = zat t ∧ 0 ≤ a ∧ a = (zkd (h.2.2.1 + 1)).2 ∧ h.2.2.1 < zNP then zgo pc L (vR (h.2.2.1 + 1) :: st) (zmk h) else zno
  | _ => zno
def zanew (o idx pc : Nat) (L st : List zV) (h : zH) : zA := match zcn o idx, st with
  | some ci, some (.inl a) :: st => if ((zkd (h.2.2.1 + 1)).1 = 5 ∧ ci = 4 ∨ (zkd (h.2.2.1 + 1)).1 = 6 ∧ ci = 8) ∧ 0 ≤ a ∧ a = (zkd (h.2.2.1 + 1)).2 ∧ h.2.2.1 < zNP then zgo pc L (vR (h.2.2.1 + 1) :: st) (zmk h) else zno
  | _, _ => zno
/-- the words that the values take -/
def zcat (v : zV) : Nat := match v with
  | some (.inr (.inl _)) => 2
  | _ => 1
def zent : List zV → List zV
  | [] => []
  | v :: l => (if zcat v = 2 then [v, none] else [v]) ++ zent l
def zin0 (m : Nat) (as : List zV) : List zV := zent as ++ List.replicate (zL m - (zent as).length) none
/-- a call: kind 0 of an object's method, 1 static, 2 and 3 a constructor -/
def zcall (m o idx pc k1 k2 : Nat) (L st : List zV) (h : zH) : zA := match zml o idx with
  | some (k, c) =>
    if k = k1 ∨ k = k2 then
      (if zna c ≤ st.length ∧ c < 217 ∧ zfr c + 1 ≤ zfr m ∧ 8 + (zL c + 11) + zlo c ≤ zlo m ∧ (((st.drop (zna c)).map zcat).sum ≤ 8) ∧ ((st.take (zna c)).all (fun v => v.isSome && (zhl c || znl v)) = true) ∧ (zent (st.take (zna c)).reverse).length ≤ zL c then
        (if k = 1 then .inr (.inl (c, (st.take (zna c)).reverse, pc, st.drop (zna c)))
         else match (st.take (zna c)).reverse with
          | some (.inr (.inr p)) :: _ => if (zkd p = (0, zo c) ∧ p ≤ h.2.2.1) ∨ (zo c = 13 ∧ zkd p = (0, 20)) then .inr (.inl (c, (st.take (zna c)).reverse, pc, st.drop (zna c))) else zno
          | _ => zno)
      else zno)
    else if k = 10 ∧ k2 = 3 then (match st with
      | some (.inr (.inr p)) :: st => if 1 ≤ p ∧ p ≤ h.2.2.1 ∧ 1 ≤ zfr m ∧ (st.map zcat).sum + 12 ≤ zlo m then zgo pc L st h else zno
      | _ => zno)
    else if k = 11 ∧ k1 = 1 then (match st with
      | some (.inl n) :: some (.inl dp) :: some (.inr (.inr d)) :: some (.inl sp) :: some (.inr (.inr q)) :: st => if (zkd d).1 = 1 ∧ d ≤ h.2.2.1 ∧ (zkd q).1 = 1 ∧ q ≤ h.2.2.1 ∧ 0 ≤ n ∧ 0 ≤ dp ∧ 0 ≤ sp ∧ sp + n ≤ (zkd q).2 ∧ dp + n ≤ (zkd d).2 ∧ 1 ≤ zfr m ∧ (st.map zcat).sum + 30 ≤ zlo m then zgo pc L st (zcpy h.1 q sp d dp n, h.2) else zno
      | _ => zno)
    else if k = 12 ∧ k1 = 0 then (match st with
      | some (.inr (.inr q)) :: st => if q = 900 ∧ zkd (h.2.2.1 + 1) = (1, 5) ∧ h.2.2.1 < zNP ∧ 1 ≤ zfr m ∧ (st.map zcat).sum + 30 ≤ zlo m then zgo pc L (vR (h.2.2.1 + 1) :: st) (zcpy (zmk h).1 900 0 (h.2.2.1 + 1) 0 5, (zmk h).2) else zno
      | _ => zno)
    else zno
  | none => zno
def zrt (m : Nat) (st : List zV) : zA := match st with
  | [some (.inl a)] => (match zret m with
    | some .int => .inr (.inr (.inl (some (vI a))))
    | some .boolean => if a = 0 ∨ a = 1 then .inr (.inr (.inl (some (vI a)))) else zno
    | some .char => if 0 ≤ a ∧ a < 65536 then .inr (.inr (.inl (some (vI a)))) else zno
    | some .byte => if -128 ≤ a ∧ a < 128 then .inr (.inr (.inl (some (vI a)))) else zno
    | _ => zno)
  | _ => zno
/-- how long an instruction is (0: a switch) -/
def ziln (i : Instr) : Nat := match i with
  | .iconst _ => 1 | .bipush _ => 2 | .sipush _ => 3 | .lconst _ => 1 | .aconst_null => 1
  | .iload _ => 2 | .iload_n _ => 1 | .lload _ => 2 | .lload_n _ => 1 | .aload _ => 2 | .aload_n _ => 1
  | .istore _ => 2 | .istore_n _ => 1 | .astore _ => 2 | .astore_n _ => 1 | .lstore _ => 2 | .iinc _ _ => 3
  | .goto _ => 3 | .ifCond _ _ => 3 | .if_icmp _ _ => 3 | .ifnull _ => 3 | .tableswitch _ _ _ _ => 0 | .lookupswitch _ _ => 0
  | .ldc _ => 2 | .ldc_w _ => 3 | .ldc2_w _ => 3 | .getfield _ => 3 | .putfield _ => 3 | .getstatic _ => 3
  | .new _ => 3 | .newarray _ => 2 | .anewarray _ => 3 | .checkcast _ => 3
  | .invokevirtual _ => 3 | .invokestatic _ => 3 | .invokespecial _ => 3
  | _ => 1
def zac0 (m : Nat) (i : Instr) (pc len : Nat) (L st : List zV) (h : zH) : zA :=
  match i with
  | .iconst a => if -1 ≤ a ∧ a ≤ 5 then zgo (pc + len) L (vI a :: st) h else zno
  | .bipush a => if -128 ≤ a ∧ a < 128 then zgo (pc + len) L (vI a :: st) h else zno
  | .sipush a => if -32768 ≤ a ∧ a < 32768 then zgo (pc + len) L (vI a :: st) h else zno
  | .lconst a => zgo (pc + len) L (vL (a : Nat) :: st) h
  | .aconst_null => zgo (pc + len) L (vR 0 :: st) h
  | .iload k => zldI k (pc + len) L st h
  | .iload_n k => zldI k (pc + len) L st h
  | .lload k => zldL k (pc + len) L st h
  | .lload_n k => zldL k (pc + len) L st h
  | .aload k => zldR k (pc + len) L st h
  | .aload_n k => zldR k (pc + len) L st h
  | .istore k => zstI m k (pc + len) L st h
  | .istore_n k => zstI m k (pc + len) L st h
  | .astore k => zstR m k (pc + len) L st h
  | .astore_n k => zstR m k (pc + len) L st h
  | .lstore k => zstJ m k (pc + len) L st h
  | .iinc k n => zinc m k n (pc + len) L st h
  | .iadd => zbin (fun a b => wr (a + b)) (pc + len) L st h
  | .isub => zbin (fun a b => wr (a - b)) (pc + len) L st h
  | .imul => zbin (fun a b => wr (a * b)) (pc + len) L st h
  | .idiv => zdv (fun a b => wr (a.tdiv b)) (pc + len) L st h
  | .irem => zdv (fun a b => a.tmod b) (pc + len) L st h
  | .iand => zbin (w2 (· &&& ·)) (pc + len) L st h
  | .ior => zbin (w2 (· ||| ·)) (pc + len) L st h
  | .ixor => zbin (w2 (· ^^^ ·)) (pc + len) L st h
  | .ishl => zbin (w2 (fun a b => a <<< (b &&& 31))) (pc + len) L st h
  | .ishr => zbin (w2 (fun a b => a >>> (b &&& 31))) (pc + len) L st h
  | .iushr => zbin (w2 zusr) (pc + len) L st h
  | .i2l => (match st with | some (.inl a) :: st => zgo (pc + len) L (vL a :: st) h | _ => zno)
  | .l2i => (match st with | some (.inr (.inl a)) :: st => zgo (pc + len) L (vI (wr a) :: st) h | _ => zno)
  | .i2b => (match st with | some (.inl a) :: st => zgo (pc + len) L (vI (wb a) :: st) h | _ => zno)
  | .i2c => (match st with | some (.inl a) :: st => zgo (pc + len) L (vI (wc a) :: st) h | _ => zno)
  | .ladd => (match st with | some (.inr (.inl b)) :: some (.inr (.inl a)) :: st => zgo (pc + len) L (vL (wl (a + b)) :: st) h | _ => zno)
  | .lcmp => (match st with | some (.inr (.inl b)) :: some (.inr (.inl a)) :: st => zgo (pc + len) L (vI (if a < b then -1 else if a = b then 0 else 1) :: st) h | _ => zno)
  | .dup => (match st with | v :: st => if zcat v = 1 ∧ v.isSome = true then zgo (pc + len) L (v :: v :: st) h else zno | _ => zno)
  | .dup2 => (match st with | v :: w :: st => if zcat v = 1 ∧ zcat w = 1 ∧ v.isSome = true ∧ w.isSome = true then zgo (pc + len) L (v :: w :: v :: w :: st) h else zno | _ => zno)
  | .pop => (match st with | v :: st => if zcat v = 1 ∧ v.isSome = true then zgo (pc + len) L st h else zno | _ => zno)
  | .goto off => zjmp pc off L st h
  | .ifCond c off => zif c off pc len L st h
  | .if_icmp c off => zicmp c off pc len L st h
  | .ifnull off => zifnull off pc len L st h
  | .tableswitch dflt lo hi offs => ztab dflt lo hi offs pc L st h
  | .lookupswitch dflt ps => zlook dflt ps pc L st h
  | .ldc k => (match zct (zo m) k with
    | some a => if -2147483648 ≤ a ∧ a ≤ 2147483647 then zgo (pc + len) L (vI a :: st) h else zno
    | none => match zst (zo m) k with
      | some j => zgo (pc + len) L (vR (1000 + j) :: st) h
      | none => zno)
  | .ldc_w k => (match zct (zo m) k with
    | some a => if -2147483648 ≤ a ∧ a ≤ 2147483647 then zgo (pc + len) L (vI a :: st) h else zno
    | none => zno)
  | .ldc2_w k => (match zcl (zo m) k with
    | some a => if -2147483648 ≤ a ∧ a ≤ 2147483647 then zgo (pc + len) L (vL a :: st) h else zno
    | none => zno)
  | .getfield k => zget (zo m) k (pc + len) L st h
  | .putfield k => zput m (zo m) k (pc + len) L st h
  | .getstatic k => zgst (zo m) k (pc + len) L st h
  | .iaload => zald [1] (pc + len) L st h
  | .baload => zald [2, 3] (pc + len) L st h
  | .laload => zald [4] (pc + len) L st h
  | .aaload => zald [5, 6] (pc + len) L st h
  | .iastore => zast 1 (pc + len) L st h
  | .bastore => zbast (pc + len) L st h
  | .lastore => zlast (pc + len) L st h
  | .aastore => zaast (pc + len) L st h
  | .arraylength => zlen (pc + len) L st h
  | .new k => znew (zo m) k (pc + len) L st h
  | .newarray t => znewa t (pc + len) L st h
  | .anewarray k => zanew (zo m) k (pc + len) L st h
  | .checkcast k => (match zcn (zo m) k, st with
    | some 30, some (.inr (.inr p)) :: st => if (zkd p).1 = 1 ∧ p ≤ h.2.2.1 then zgo (pc + len) L (vR p :: st) h else zno
    | _, _ => zno)
  | .invokevirtual k => zcall m (zo m) k (pc + len) 0 0 L st h
  | .invokestatic k => zcall m (zo m) k (pc + len) 1 1 L st h
  | .invokespecial k => zcall m (zo m) k (pc + len) 2 3 L st h
  | .ireturn => zrt m st
  | .return_ => if st = [] ∧ zret m = none then .inr (.inr (.inl none)) else zno
  | _ => zno
def zact (m : Nat) (i : Instr) (pc len : Nat) (L st : List zV) (h : zH) : zA := if ziln i = 0 ∨ ziln i = len then zac0 m i pc len L st h else zno
def zpush (r : Option zV) (st : List zV) : List zV := match r with
  | some v => v :: st
  | none => st
/-- the machine, n steps at most -/
def zev : Nat → Nat → Nat → List zV → List zV → zH → Option (Option zV × zH)
  | 0, _, _, _, _, _ => none
  | n + 1, m, pc, L, st, h => match decode (zb m) pc with
    | .ok (i, len) => (match zact m i pc len L st h with
      | .inl (pc', L', st', h') => zev n m pc' L' st' h'
      | .inr (.inl (c, as, pc', st')) => (match zev n c 0 (zin0 c as) [] h with
        | some (r, h') => zev n m pc' L (zpush r st') h'
        | none => none)
      | .inr (.inr (.inl r)) => some (r, h)
      | .inr (.inr (.inr _)) => none)
    | .error _ => none
theorem zev_step {m pc : Nat} {L st : List zV} {h : zH} {i : Instr} {len : Nat} (hd : decode (zb m) pc = .ok (i, len)) (n : Nat) : zev (n + 1) m pc L st h = match zact m i pc len L st h with
      | .inl (pc', L', st', h') => zev n m pc' L' st' h'
      | .inr (.inl (c, as, pc', st')) => (match zev n c 0 (zin0 c as) [] h with
        | some (r, h') => zev n m pc' L (zpush r st') h'
        | none => none)
      | .inr (.inr (.inl r)) => some (r, h)
      | .inr (.inr (.inr _)) => none := by
  rw [zev, hd]
theorem zev_mono : ∀ (n : Nat) {m pc : Nat} {L st : List zV} {h : zH} {o : Option zV × zH}, zev n m pc L st h = some o → zev (n + 1) m pc L st h = some o := by
  intro n
  induction n with
  | zero => intro m pc L st h o e; cases e
  | succ n ih =>
    intro m pc L st h o e
    cases hd : decode (zb m) pc with
    | error z => rw [zev, hd] at e; cases e
    | ok q =>
      obtain ⟨i, len⟩ := q
      rw [zev_step hd] at e ⊢
      cases ha : zact m i pc len L st h with
      | inl q =>
        obtain ⟨pc', L', st', h'⟩ := q
        rw [ha] at e
        exact ih e
      | inr q =>
        cases q with
        | inl q =>
          obtain ⟨c, as, pc', st'⟩ := q
          rw [ha] at e
          simp only at e ⊢
          cases hc : zev n c 0 (zin0 c as) [] h with
          | none => rw [hc] at e; cases e
          | some r =>
            rw [hc] at e
            rw [ih hc]
            exact ih e
        | inr q =>
          rw [ha] at e
          cases q with
          | inl r => exact e
          | inr _ => cases e
theorem zev_le {n k : Nat} (hk : n ≤ k) {m pc : Nat} {L st : List zV} {h : zH} {o : Option zV × zH} (e : zev n m pc L st h = some o) : zev k m pc L st h = some o := by
  induction k with
  | zero => rw [Nat.le_zero.mp hk] at e; exact e
  | succ k ih =>
    rcases Nat.lt_or_eq_of_le hk with q | q
    · exact zev_mono k (ih (Nat.le_of_lt_succ q))
    · rw [← q]; exact e
/-- the machine's answer, if it comes to one -/
noncomputable def zX (m pc : Nat) (L st : List zV) (h : zH) : Option (Option zV × zH) := by
  classical exact if w : ∃ o, ∃ n, zev n m pc L st h = some o then some w.choose else none
theorem zX_some {m pc : Nat} {L st : List zV} {h : zH} {o : Option zV × zH} : zX m pc L st h = some o ↔ ∃ n, zev n m pc L st h = some o := by
  unfold zX
  constructor
  · intro e
    split at e
    · rename_i w
      rw [← Option.some.inj e]
      exact w.choose_spec
    · cases e
  · rintro ⟨n, e⟩
    have w : ∃ o, ∃ n, zev n m pc L st h = some o := ⟨o, n, e⟩
    rw [dif_pos w]
    obtain ⟨k, ek⟩ := w.choose_spec
    have h1 := zev_le (Nat.le_max_left n k) e
    have h2 := zev_le (Nat.le_max_right n k) ek
    rw [h1] at h2
    exact h2.symm
theorem zX_ext {m pc m' pc' : Nat} {L st L' st' : List zV} {h h' : zH} (w : ∀ o, (∃ n, zev n m pc L st h = some o) ↔ ∃ n, zev n m' pc' L' st' h' = some o) : zX m pc L st h = zX m' pc' L' st' h' := by
  apply Option.ext
  intro o
  rw [zX_some, zX_some]
  exact w o
theorem zX_go {m pc : Nat} {L st : List zV} {h : zH} {i : Instr} {len : Nat} (hd : decode (zb m) pc = .ok (i, len)) {pc' : Nat} {L' st' : List zV} {h' : zH} (ha : zact m i pc len L st h = .inl (pc', L', st', h')) : zX m pc L st h = zX m pc' L' st' h' := by
  refine zX_ext fun o => ⟨?_, ?_⟩
  · rintro ⟨n, e⟩
    cases n with
    | zero => cases e
    | succ n => rw [zev_step hd, ha] at e; exact ⟨n, e⟩
  · rintro ⟨n, e⟩
    exact ⟨n + 1, by rw [zev_step hd, ha]; exact e⟩
/-- a method from its entry -/
noncomputable def zrun (c : Nat) (as : List zV) (h : zH) : Option (Option zV × zH) := zX c 0 (zin0 c as) [] h
theorem zX_call {m pc : Nat} {L st : List zV} {h : zH} {i : Instr} {len : Nat} (hd : decode (zb m) pc = .ok (i, len)) {c pc' : Nat} {as st' : List zV} (ha : zact m i pc len L st h = .inr (.inl (c, as, pc', st'))) : zX m pc L st h = (zrun c as h).bind (fun q => zX m pc' L (zpush q.1 st') q.2) := by
  apply Option.ext
  intro o
  rw [zX_some]
  constructor
  · rintro ⟨n, e⟩
    cases n with
    | zero => cases e
    | succ n =>
      rw [zev_step hd, ha] at e
      simp only at e
      cases hc : zev n c 0 (zin0 c as) [] h with
      | none => rw [hc] at e; cases e
      | some r =>
        rw [hc] at e
        have h1 : zrun c as h = some r := zX_some.mpr ⟨n, hc⟩
        rw [h1]
        exact zX_some.mpr ⟨n, e⟩
  · intro e
    cases hc : zrun c as h with
    | none => rw [hc] at e; cases e
    | some r =>
      rw [hc] at e
      obtain ⟨n1, e1⟩ := zX_some.mp hc
      obtain ⟨n2, e2⟩ := zX_some.mp (show zX m pc' L (zpush r.1 st') r.2 = some o from e)
      refine ⟨max n1 n2 + 1, ?_⟩
      rw [zev_step hd, ha]
      simp only
      rw [zev_le (Nat.le_max_left n1 n2) e1]
      exact zev_le (Nat.le_max_right n1 n2) e2
theorem zX_ret {m pc : Nat} {L st : List zV} {h : zH} {i : Instr} {len : Nat} (hd : decode (zb m) pc = .ok (i, len)) {r : Option zV} (ha : zact m i pc len L st h = .inr (.inr (.inl r))) : zX m pc L st h = some (r, h) := zX_some.mpr ⟨1, by rw [zev_step hd, ha]⟩
