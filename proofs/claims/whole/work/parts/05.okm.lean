/-! what a table of instructions, and the words of calls, must be -/
def m_tb (M : mM) : List (Nat × Instr × Nat) := M.2.2.2.2.2.2
def m_len : Instr → Nat
  | .bipush _ | .iload _ | .istore _ | .lload _ | .lstore _ | .aload _ | .astore _ | .ldc _ | .newarray _ => 2
  | .sipush _ | .getfield _ | .putfield _ | .goto _ | .if_icmp _ _ | .ifCond _ _ | .iinc _ _ | .ldc_w _ | .ldc2_w _ | .invokevirtual _ | .invokestatic _ | .invokespecial _ | .new _ | .anewarray _ | .ifnull _ | .ifnonnull _ | .getstatic _ => 3
  | .multianewarray _ _ => 4
  | _ => 1
def m_tgt : Instr → Option Int
  | .goto o => some o
  | .if_icmp _ o => some o
  | .ifCond _ o => some o
  | _ => none
/-- a constant that an instruction bears: its value, and whether it is not below 0 -/
def m_cv : Instr → Option (Int32 × Bool)
  | .iconst n => some (Int32.ofInt n, decide (0 ≤ n))
  | .bipush n => some ((Int8.ofInt n).toInt32, decide (0 ≤ n))
  | .sipush n => some ((Int16.ofInt n).toInt32, decide (0 ≤ n))
  | .iinc _ n => some (Int32.ofInt n, decide (0 ≤ n))
  | _ => none
def m_sw : Instr → Bool
  | .tableswitch _ _ _ _ => true
  | .lookupswitch _ _ => true
  | _ => false
def m_okI (b : ByteArray) (q : Nat × Instr × Nat) : Bool := match decode b q.1 with
  | .ok (i, n) => decide (i = q.2.1) && (decide (n = m_len i) || m_sw i) && (match m_tgt i with
    | none => true
    | some o => decide ((q.1 : Int) + o = (q.2.2 : Int))) && (match m_cv i with
    | none => true
    | some (v, b) => decide (v = bif b then nI q.2.2 else -nI q.2.2))
  | _ => false
def m_okM (M : mM) : Bool := decide (m_owns.getD M.2.2.2.2.2.1 "" = M.1.cls) && (m_tb M).all (m_okI M.2.1)
/-- the words of a call -/
def m_ar1 (M' : mM) (n : Nat) : Bool := match parseMethodDescriptor M'.1.desc with
  | some sig => decide (sig.parameters.length = n)
  | none => true
def m_cw0 (M' : mM) (n : Nat) : Bool := m_in (m_w1 M') && m_in (.initialized M'.1.cls) && Nat.ble M'.2.2.1 49 && m_ar1 M' n && decide (M'.1.cls ≠ "java/lang/invoke/MethodHandle") && decide (M'.1.cls ≠ "java/lang/invoke/VarHandle")
def m_cwS (cl : String) (i : Nat) (M' : mM) (n : Nat) : Bool := m_cw0 M' n && m_in (.methodLink cl i M'.1) && m_in (.static M'.1)
def m_cwV (cl : String) (i : Nat) (M' : mM) (n : Nat) : Bool := m_cw0 M' n && m_in (.methodLink cl i M'.1) && m_in (.instanceMethod M'.1) && m_in (.selects M'.1.cls M'.1 M'.1)
def m_cwI (cl : String) (i : Nat) (M' : mM) (n : Nat) : Bool := m_cw0 M' n && m_in (.methodLink cl i M'.1) && m_in (.instanceMethod M'.1) && decide (M'.1.name = "<init>") && decide (M'.2.2.2.1 = none)
def m_cwN (cl : String) (i : Nat) (M' : mM) (n : Nat) : Bool := m_cw0 M' n && m_in (.methodLinkNest cl i M'.1 "LandUses") && m_in (.instanceMethod M'.1) && decide (M'.1.name = "<init>") && decide (M'.2.2.2.1 = none)
def m_oi (cl : String) (i : Nat) : Bool := m_in (.methodLink cl i objectInit) && m_in (.instanceMethod objectInit) && m_in (.code objectInit ⟨#[0xb1]⟩ 1 none)
def m_nw (cl : String) (i ci : Nat) : Bool := match m_cl[ci]? with
  | some r => m_in (.classLink cl i r.1) && m_in (.instantiable r.1 r.2.2) && m_in (.initialized r.1)
  | none => false
/-- the words of a throw of a class's exception -/
def m_tw (cl : String) (ik ic : Nat) (nm : String) : Bool := m_in (.classLink cl ik nm) && m_in (.initialized nm) && (vx_atS cl ic nm ["java/lang/RuntimeException", "java/lang/Exception"]).all (fun w => m_in w && vx_ot w) && Bundle.fit nm && vx_ot (.classLink cl ik nm) && vx_ot (.initialized nm)
