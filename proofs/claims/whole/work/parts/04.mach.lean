-- a plain machine over whole numbers: its values, its heap (numbers alone: what refers stands still), its step
/-- an int, a long, a cell, else (0: nothing, 1: the script, 2 + i: the text i) -/
abbrev AV : Type := Int ⊕ (Int ⊕ (Nat ⊕ Nat))
abbrev SG : Type := (Nat → Nat → Int32) × (Nat → Nat → Int64)
abbrev XS : Type := Option (Nat × (Nat → Int32))
abbrev aU : AV := .inr (.inr (.inr 0))
def isL : AV → Bool
  | .inr (.inl _) => true
  | _ => false
def stw : List AV → Nat
  | [] => 0
  | v :: r => (if isL v then 2 else 1) + stw r
def gg (σ : SG) (k j : Nat) : Int := (σ.1 k j).toInt
def gl (σ : SG) (k j : Nat) : Int := (σ.2 k j).toInt
def ug (σ : SG) (k j : Nat) (v : Int) : SG := (fun a b => if a = k then (if b = j then Int32.ofInt v else σ.1 a b) else σ.1 a b, σ.2)
def ul (σ : SG) (k j : Nat) (v : Int) : SG := (σ.1, fun a b => if a = k then (if b = j then Int64.ofInt v else σ.2 a b) else σ.2 a b)
/-- what the field j of a cell holds -/
def fAV (σ : SG) (k j : Nat) : AV := match (cft (shC k)).getD j 0 with
  | 3 => .inr (.inr (.inl (shR k j)))
  | 2 => .inr (.inl (gl σ k j))
  | _ => .inl (gg σ k j)
/-- what an array of references holds -/
def shE (_k i : Nat) : Nat := 30 + 14 * i
def frF (own idx : Nat) : Option (Nat × Nat × Nat × Nat × Nat × Nat × Nat) := frTab.find? (fun e => e.1 == own && e.2.1 == idx)
def caF (own idx : Nat) : Option (Nat × Nat × Nat × Nat × Nat × Nat × Nat × Nat × Nat) := caTab.find? (fun e => e.1 == own && e.2.1 == idx)
def klF (own idx : Nat) : Option (Nat × Nat × Int × Nat) := klTab.find? (fun e => e.1 == own && e.2.1 == idx)
def kiF (own idx : Nat) : Option (Nat × Nat × Int × Nat) := kiTab.find? (fun e => e.1 == own && e.2.1 == idx)
def ksF (own idx : Nat) : Option (Nat × Nat × Nat) := if own = 2 then ksTab.find? (fun e => e.1 == idx) else none
def pI (st : List AV) (f : Int → List AV → Prop) : Prop := match st with
  | .inl a :: r => f a r
  | _ => False
def pL (st : List AV) (f : Int → List AV → Prop) : Prop := match st with
  | .inr (.inl a) :: r => f a r
  | _ => False
def pR (st : List AV) (f : Nat → List AV → Prop) : Prop := match st with
  | .inr (.inr (.inl a)) :: r => f a r
  | _ => False
def lI (ls : List AV) (i : Nat) (f : Int → Prop) : Prop := match ls[i]? with
  | some (.inl a) => f a
  | _ => False
def lL (ls : List AV) (i : Nat) (f : Int → Prop) : Prop := match ls[i]? with
  | some (.inr (.inl a)) => f a
  | _ => False
def lA (ls : List AV) (i : Nat) (f : AV → Prop) : Prop := match ls[i]? with
  | some (.inr (.inr (.inl k))) => f (.inr (.inr (.inl k)))
  | some (.inr (.inr (.inr (n + 1)))) => f (.inr (.inr (.inr (n + 1))))
  | _ => False
def sI (y : Nat) (ls : List AV) (i : Nat) (f : Prop) : Prop := i < ls.length ∧ (mhl y = false ∨ i = 0 ∨ isL (ls.getD (i - 1) aU) = false) ∧ f
def sL (y : Nat) (ls : List AV) (i : Nat) (f : Prop) : Prop := i + 1 < ls.length ∧ mhl y = true ∧ (i = 0 ∨ isL (ls.getD (i - 1) aU) = false) ∧ f
def pushR (r : AV) (st : List AV) : List AV := match r with
  | .inr (.inr (.inr 0)) => st
  | v => v :: st
def wbr (pc : Nat) (off : Int) (f : Nat → Prop) : Prop := 0 ≤ (pc : Int) + off ∧ f ((pc : Int) + off).toNat
def cmpI (c : ClassFile.Cond) (a b : Int) : Bool := match c with
  | .eq => decide (a = b)
  | .ne => decide (a ≠ b)
  | .lt => decide (a < b)
  | .ge => decide (b ≤ a)
  | .gt => decide (b < a)
  | .le => decide (a ≤ b)
/-- may the method y be called so: of a cell of its class, or of a text -/
def rcv (y : Nat) (v : Option AV) : Prop := match v with
  | some (.inr (.inr (.inl k))) => shC k = mow y ∧ shC k < 8
  | some (.inr (.inr (.inr (n + 2)))) => n < 6 ∧ (y = 205 ∨ y = 206)
  | _ => False
def wcall (C : Nat → List AV → SG → (AV → SG → Prop) → Prop) (own idx : Nat) (vir : Bool) (st : List AV) (σ : SG) (k : AV → SG → List AV → Prop) : Prop := match caF own idx with
  | some e => (if vir then (2 ≤ e.2.2.2.1 ∧ rcv e.2.2.1 ((st.take (mna e.2.2.1)).reverse)[0]?) else e.2.2.2.1 < 2) ∧ mna e.2.2.1 ≤ st.length ∧ stw (st.drop (mna e.2.2.1)) ≤ 8 ∧ C e.2.2.1 ((st.take (mna e.2.2.1)).reverse) σ (fun r σ' => k r σ' (st.drop (mna e.2.2.1)))
  | none => False
def ilen (i : Instr) : Nat := match i with
  | .bipush _ | .iload _ | .lload _ | .aload _ | .istore _ | .lstore _ | .astore _ | .ldc _ | .newarray _ => 2
  | .sipush _ | .iinc _ _ | .getfield _ | .putfield _ | .invokestatic _ | .invokevirtual _ | .ldc_w _ | .ldc2_w _ | .goto _ | .if_icmp _ _ | .ifCond _ _ | .ifnull _ => 3
  | _ => 1
def okL (i : Instr) (n : Nat) : Bool := match i with
  | .tableswitch _ _ _ _ => true
  | .lookupswitch _ _ => true
  | _ => n == ilen i
def retI (y : Nat) (v : Int) : Prop := mrt y = some .int ∨ (mrt y = some .boolean ∧ (v = 0 ∨ v = 1))
def tswT (lo hi : Int) (offs : Array Int) (dflt x : Int) (f : Int → Prop) : Prop :=
  if x < lo ∨ hi < x then f dflt else match offs[(x - lo).toNat]? with
    | some o => f o
    | none => False
def wstep (X : XS) (C : Nat → List AV → SG → (AV → SG → Prop) → Prop) (y pc : Nat) (ls st : List AV) (σ : SG) (Q : AV → SG → Prop) (K : Nat → List AV → List AV → SG → Prop) (i : Instr) : Prop := match i with
  | .iconst v => InR v ∧ K (pc + 1) ls (.inl v :: st) σ
  | .bipush v => (-128 ≤ v ∧ v < 128) ∧ K (pc + 2) ls (.inl v :: st) σ
  | .sipush v => (-32768 ≤ v ∧ v < 32768) ∧ K (pc + 3) ls (.inl v :: st) σ
  | .lconst v => K (pc + 1) ls (.inr (.inl (v.val : Int)) :: st) σ
  | .ldc idx => match kiF (mow y) idx with
    | some e => K (pc + 2) ls (.inl e.2.2.1 :: st) σ
    | none => match ksF (mow y) idx with
      | some e => K (pc + 2) ls (.inr (.inr (.inr (e.2.1 + 2))) :: st) σ
      | none => False
  | .ldc_w idx => match kiF (mow y) idx with
    | some e => K (pc + 3) ls (.inl e.2.2.1 :: st) σ
    | none => False
  | .ldc2_w idx => match klF (mow y) idx with
    | some e => K (pc + 3) ls (.inr (.inl e.2.2.1) :: st) σ
    | none => False
  | .iload_n k => lI ls k.val fun a => K (pc + 1) ls (.inl a :: st) σ
  | .iload k => lI ls k fun a => K (pc + 2) ls (.inl a :: st) σ
  | .lload_n k => lL ls k.val fun a => K (pc + 1) ls (.inr (.inl a) :: st) σ
  | .lload k => lL ls k fun a => K (pc + 2) ls (.inr (.inl a) :: st) σ
  | .aload_n k => lA ls k.val fun a => K (pc + 1) ls (a :: st) σ
  | .aload k => lA ls k fun a => K (pc + 2) ls (a :: st) σ
  | .istore_n k => pI st fun a r => sI y ls k.val (K (pc + 1) (ls.set k.val (.inl a)) r σ)
  | .istore k => pI st fun a r => sI y ls k (K (pc + 2) (ls.set k (.inl a)) r σ)
  | .lstore_n k => pL st fun a r => sL y ls k.val (K (pc + 1) ((ls.set k.val (.inr (.inl a))).set (k.val + 1) aU) r σ)
  | .lstore k => pL st fun a r => sL y ls k (K (pc + 2) ((ls.set k (.inr (.inl a))).set (k + 1) aU) r σ)
  | .astore_n k => pR st fun a r => sI y ls k.val (K (pc + 1) (ls.set k.val (.inr (.inr (.inl a)))) r σ)
  | .astore k => pR st fun a r => sI y ls k (K (pc + 2) (ls.set k (.inr (.inr (.inl a)))) r σ)
  | .iinc k n => lI ls k fun a => sI y ls k (K (pc + 3) (ls.set k (.inl (a + n))) st σ)
  | .iadd => pI st fun b r => pI r fun a r => K (pc + 1) ls (.inl (a + b) :: r) σ
  | .isub => pI st fun b r => pI r fun a r => K (pc + 1) ls (.inl (a - b) :: r) σ
  | .imul => pI st fun b r => pI r fun a r => K (pc + 1) ls (.inl (a * b) :: r) σ
  | .idiv => pI st fun b r => pI r fun a r => (0 ≤ a ∧ a < 2147483648 ∧ 0 < b ∧ b < 2147483648) ∧ K (pc + 1) ls (.inl (a / b) :: r) σ
  | .irem => pI st fun b r => pI r fun a r => (0 ≤ a ∧ a < 2147483648 ∧ 0 < b ∧ b < 2147483648) ∧ K (pc + 1) ls (.inl (a % b) :: r) σ
  | .iand => pI st fun b r => pI r fun a r => (b = 63 ∨ (0 ≤ a ∧ a < 2147483648 ∧ -2147483648 ≤ b ∧ b < 2147483648)) ∧ K (pc + 1) ls (.inl (if b = 63 then a % 64 else if 0 ≤ b then ((a.toNat &&& b.toNat : Nat) : Int) else a - ((a.toNat &&& (-b - 1).toNat : Nat) : Int)) :: r) σ
  | .ior => pI st fun b r => pI r fun a r => (0 ≤ a ∧ a < 2147483648 ∧ 0 ≤ b ∧ b < 2147483648) ∧ K (pc + 1) ls (.inl ((a.toNat ||| b.toNat : Nat) : Int) :: r) σ
  | .ixor => pI st fun b r => pI r fun a r => b = -1 ∧ K (pc + 1) ls (.inl (-a - 1) :: r) σ
  | .ishl => pI st fun b r => pI r fun a r => (0 ≤ a ∧ 0 ≤ b ∧ b < 32 ∧ a * 2 ^ b.toNat < 4294967296) ∧ K (pc + 1) ls (.inl (a * 2 ^ b.toNat) :: r) σ
  | .ishr => pI st fun b r => pI r fun a r => (0 ≤ a ∧ a < 2147483648 ∧ 0 ≤ b ∧ b < 32) ∧ K (pc + 1) ls (.inl (a / 2 ^ b.toNat) :: r) σ
  | .i2l => pI st fun a r => InR a ∧ K (pc + 1) ls (.inr (.inl a) :: r) σ
  | .l2i => pL st fun a r => K (pc + 1) ls (.inl a :: r) σ
  | .i2c => pI st fun a r => (0 ≤ a ∧ a < 65536) ∧ K (pc + 1) ls (.inl a :: r) σ
  | .ladd => pL st fun b r => pL r fun a r => K (pc + 1) ls (.inr (.inl (a + b)) :: r) σ
  | .lmul => pL st fun b r => pL r fun a r => K (pc + 1) ls (.inr (.inl (a * b)) :: r) σ
  | .ldiv => pL st fun b r => pL r fun a r => (0 ≤ a ∧ a < 9223372036854775808 ∧ 0 < b ∧ b < 9223372036854775808) ∧ K (pc + 1) ls (.inr (.inl (a / b)) :: r) σ
  | .lrem => pL st fun b r => pL r fun a r => (0 ≤ a ∧ a < 9223372036854775808 ∧ 0 < b ∧ b < 9223372036854775808) ∧ K (pc + 1) ls (.inr (.inl (a % b)) :: r) σ
  | .lcmp => pL st fun b r => pL r fun a r => (a = b ∨ (InL a ∧ InL b)) ∧ K (pc + 1) ls (.inl (if a = b then 0 else if b < a then 1 else -1) :: r) σ
  | .dup => match st with
    | v :: r => isL v = false ∧ K (pc + 1) ls (v :: v :: r) σ
    | _ => False
  | .dup2 => match st with
    | v :: w :: r => isL v = false ∧ isL w = false ∧ K (pc + 1) ls (v :: w :: v :: w :: r) σ
    | _ => False
  | .pop => match st with
    | v :: r => isL v = false ∧ K (pc + 1) ls r σ
    | _ => False
  | .goto off => wbr pc off fun t => K t ls st σ
  | .if_icmp c off => pI st fun b r => pI r fun a r => (InR a ∧ InR b) ∧ wbr pc off fun t => if cmpI c a b = true then K t ls r σ else K (pc + 3) ls r σ
  | .ifCond c off => pI st fun a r => InR a ∧ wbr pc off fun t => if cmpI c a 0 = true then K t ls r σ else K (pc + 3) ls r σ
  | .ifnull _ => pR st fun _ r => K (pc + 3) ls r σ
  | .tableswitch dflt lo hi offs => pI st fun a r => InR a ∧ tswT lo hi offs dflt a fun o => wbr pc o fun t => K t ls r σ
  | .lookupswitch dflt ps => pI st fun a r => InR a ∧ (ps.toList.zip (ps.toList.drop 1)).all (fun (a, next) => a.1 < next.1) = true ∧ wbr pc (Op.lookupswitch.offset ps.toList dflt a) fun t => K t ls r σ
  | .getfield idx => pR st fun k r => match frF (mow y) idx with
    | some e => shC k = e.2.2.1 ∧ K (pc + 3) ls (fAV σ k e.2.2.2.1 :: r) σ
    | none => False
  | .putfield idx => match frF (mow y) idx with
    | some e => e.2.2.2.2.1 = 0 ∧ match (cft e.2.2.1).getD e.2.2.2.1 0 with
      | 0 => pI st fun v r => pR r fun k r => shC k = e.2.2.1 ∧ K (pc + 3) ls r (ug σ k e.2.2.2.1 v)
      | 1 => pI st fun v r => pR r fun k r => shC k = e.2.2.1 ∧ (v = 0 ∨ v = 1) ∧ K (pc + 3) ls r (ug σ k e.2.2.2.1 v)
      | 2 => pL st fun v r => pR r fun k r => shC k = e.2.2.1 ∧ K (pc + 3) ls r (ul σ k e.2.2.2.1 v)
      | _ => False
    | none => False
  | .iaload => pI st fun i r => match r with
    | .inr (.inr (.inl k)) :: r => shC k = 100 ∧ (0 ≤ i ∧ i < (shL k : Int)) ∧ K (pc + 1) ls (.inl (gg σ k i.toNat) :: r) σ
    | .inr (.inr (.inr 1)) :: r => match X with
      | some q => (0 ≤ i ∧ i < (q.1 : Int)) ∧ K (pc + 1) ls (.inl (q.2 i.toNat).toInt :: r) σ
      | none => False
    | _ => False
  | .baload => pI st fun i r => pR r fun k r => shC k = 101 ∧ (0 ≤ i ∧ i < (shL k : Int)) ∧ K (pc + 1) ls (.inl (gg σ k i.toNat) :: r) σ
  | .caload => pI st fun i r => pR r fun k r => shC k = 102 ∧ (0 ≤ i ∧ i < (shL k : Int)) ∧ K (pc + 1) ls (.inl (gg σ k i.toNat) :: r) σ
  | .aaload => pI st fun i r => pR r fun k r => shC k = 103 ∧ (0 ≤ i ∧ i < (shL k : Int)) ∧ K (pc + 1) ls (.inr (.inr (.inl (shE k i.toNat))) :: r) σ
  | .iastore => pI st fun v r => pI r fun i r => pR r fun k r => shC k = 100 ∧ (0 ≤ i ∧ i < (shL k : Int)) ∧ K (pc + 1) ls r (ug σ k i.toNat v)
  | .bastore => pI st fun v r => pI r fun i r => pR r fun k r => shC k = 101 ∧ (0 ≤ i ∧ i < (shL k : Int)) ∧ (v = 0 ∨ v = 1) ∧ K (pc + 1) ls r (ug σ k i.toNat v)
  | .castore => pI st fun v r => pI r fun i r => pR r fun k r => shC k = 102 ∧ (0 ≤ i ∧ i < (shL k : Int)) ∧ (0 ≤ v ∧ v < 65536) ∧ K (pc + 1) ls r (ug σ k i.toNat v)
  | .arraylength => match st with
    | .inr (.inr (.inl k)) :: r => (100 ≤ shC k ∧ shC k < 104) ∧ K (pc + 1) ls (.inl (shL k : Int) :: r) σ
    | .inr (.inr (.inr 1)) :: r => match X with
      | some q => K (pc + 1) ls (.inl (q.1 : Int) :: r) σ
      | none => False
    | _ => False
  | .invokestatic idx => wcall C (mow y) idx false st σ fun r σ' rest => K (pc + 3) ls (pushR r rest) σ'
  | .invokevirtual idx => wcall C (mow y) idx true st σ fun r σ' rest => K (pc + 3) ls (pushR r rest) σ'
  | .ireturn => pI st fun a r => r = [] ∧ retI y a ∧ Q (.inl a) σ
  | .lreturn => pL st fun a r => r = [] ∧ mrt y = some .long ∧ Q (.inr (.inl a)) σ
  | .return_ => st = [] ∧ mrt y = none ∧ Q aU σ
  | _ => False
def wp (X : XS) (C : Nat → List AV → SG → (AV → SG → Prop) → Prop) : Nat → Nat → Nat → List AV → List AV → SG → (AV → SG → Prop) → Prop
  | 0, _, _, _, _, _, _ => False
  | n + 1, y, pc, ls, st, σ, Q => match decode (mcd y) pc with
    | .ok (i, len) => okL i len = true ∧ wstep X C y pc ls st σ Q (fun pc' ls' st' σ' => wp X C n y pc' ls' st' σ' Q) i
    | .error _ => False
def lsE (args : List AV) : List AV := args.flatMap fun v => if isL v then [v, aU] else [v]
/-- the locals with which y begins -/
def entL (y : Nat) (args : List AV) : List AV := lsE args ++ List.replicate (mml y - (lsE args).length) aU
/-- String.length and String.charAt of a text -/
def biC (y : Nat) (args : List AV) (σ : SG) (r : AV) (σ' : SG) : Prop :=
  (y = 205 ∧ ∃ i, i < 6 ∧ args = [.inr (.inr (.inr (i + 2)))] ∧ r = .inl (lenS.getD i 0 : Int) ∧ σ' = σ) ∨
  (y = 206 ∧ ∃ (i : Nat) (k : Nat), i < 6 ∧ k < lenS.getD i 0 ∧ args = [.inr (.inr (.inr (i + 2))), .inl (k : Int)] ∧ r = .inl ((bytS.getD i []).getD k 0).toInt ∧ σ' = σ)
def calC (Cl : Nat → List AV → SG → AV → SG → Prop) (y : Nat) (args : List AV) (σ : SG) (K : AV → SG → Prop) : Prop := ∃ r σ', Cl y args σ r σ' ∧ K r σ'
/-- the method y, called so deep at most, answers r and leaves σ' -/
def Cal : Nat → Nat → List AV → SG → AV → SG → Prop
  | 0 => fun _ _ _ _ _ => False
  | d + 1 => fun y args σ r σ' => biC y args σ r σ' ∨ (y < 204 ∧ args.length = mna y ∧ (lsE args).length ≤ mml y ∧ (mhl y = false → ∀ v ∈ args, isL v = false) ∧ ∃ n, wp none (calC (Cal d)) n y 0 (entL y args) [] σ (fun r1 σ1 => r1 = r ∧ σ1 = σ'))
