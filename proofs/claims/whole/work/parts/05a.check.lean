def zstl : List (String × String × String) := [("", "", ""), ("PaperTown$Text", "BLOCK_LEAST", "[I"), ("PaperTown$Text", "BLOCK_MOST", "[I"), ("PaperTown$Text", "STREET_LEAST", "[I"), ("PaperTown$Text", "STREET_MOST", "[I"), ("PaperTown$Text", "GIFT_LEAST", "[I"), ("PaperTown$Text", "GIFT_MOST", "[I"), ("java/util/ArrayList", "DEFAULTCAPACITY_EMPTY_ELEMENTDATA", "[Ljava/lang/Object;")]
def zsta (a : Nat) : String × String × String := zstl.getD a ("", "", "")
def zfok (m idx t k pos : Nat) (n : Int) : Bool :=
  decide (t < 10) && decide (k < (zcl t).2.2) && decide (lw_tbl[pos]? = some (.fieldLink (zY m).cls idx (if n = 1 then "java/util/ArrayList" else ((zcl t).2.1 k).1) ((zcl t).2.1 k).2.1 ((zcl t).2.1 k).2.2.1))
  && (decide (n = 0) || (decide (n = 1) && decide (t = 0) && decide (k = 0)))
def zrok (m a b : Nat) : Bool := zmok a && decide (zFr a + 1 ≤ zFr m) && decide (8 + (zL a + 11) + zLo a ≤ zLo m) && decide ((parseMethodDescriptor (zY a).desc).map (fun d => d.parameters.length) = some b)
def zlk (m idx a pos : Nat) (n : Int) : Bool := if n = 1 then decide (lw_tbl[pos]? = some (.methodLinkNest (zY m).cls idx (zY a) "PaperTown")) else decide (lw_tbl[pos]? = some (.methodLink (zY m).cls idx (zY a)))
/-- an instruction of a list stands in the bytes, and resolves so -/
def zchk (m : Nat) : zI → Bool := fun (pc, i, len, a, b, pos, n) =>
  decide (decode (zB m) pc = .ok (i, len)) &&
  (match i with
  | .ifCond _ off => decide ((pc : Int) + off = (a : Int))
  | .if_icmp _ off => decide ((pc : Int) + off = (a : Int))
  | .if_acmp _ off => decide ((pc : Int) + off = (a : Int))
  | .goto off => decide ((pc : Int) + off = (a : Int))
  | .ifnull off => decide ((pc : Int) + off = (a : Int))
  | .ifnonnull off => decide ((pc : Int) + off = (a : Int))
  | .getfield idx => zfok m idx a b pos n
  | .putfield idx => zfok m idx a b pos n && (!((zcl a).2.1 b).2.2.2 || (decide ((zY m).name = "<init>") && decide (((zcl a).2.1 b).1 = (zY m).cls)))
  | .getstatic idx => decide (1 ≤ a) && decide (a < 8) && decide (lw_tbl[pos]? = some (.fieldLink (zY m).cls idx (zsta a).1 (zsta a).2.1 (zsta a).2.2))
  | .ldc idx => decide (lw_tbl[pos]? = some (.constant (zY m).cls idx (Int32.ofInt n)))
  | .ldc2_w idx => decide (lw_tbl[pos]? = some (.constantLong (zY m).cls idx (Int64.ofInt n)))
  | .new idx => decide (a < 10) && decide (lw_tbl[pos]? = some (.classLink (zY m).cls idx (zcl a).1))
  | .checkcast idx => decide (a < 10) && decide (lw_tbl[pos]? = some (.classLink (zY m).cls idx (zcl a).1))
  | .anewarray idx => decide (lw_tbl[pos]? = some (.classLink (zY m).cls idx "java/lang/Object"))
  | .newarray ty => decide ((ty = .int ∧ a = 100) ∨ (ty = .byte ∧ a = 101) ∨ (ty = .boolean ∧ a = 102))
  | .invokevirtual idx => zrok m a b && decide (zKi a = 1) && zlk m idx a pos n && decide (n = 0)
  | .invokespecial idx => if a = 1 then decide (lw_tbl[pos]? = some (.methodLink (zY m).cls idx objectInit)) && decide (1 ≤ zFr m) && decide (20 ≤ zLo m) else zrok m a b && decide (zKi a = 2) && zlk m idx a pos n
  | .invokestatic idx => if a = 1000 then decide (lw_tbl[pos]? = some (.methodLink (zY m).cls idx arraycopyName)) && decide (1 ≤ zFr m) && decide (26 ≤ zLo m) else zrok m a b && decide (zKi a = 0) && zlk m idx a pos n
  | .tableswitch d _ _ offs => decide (0 ≤ (pc : Int) + d) && offs.all (fun o => decide (0 ≤ (pc : Int) + o))
  | .lookupswitch d ps => decide (0 ≤ (pc : Int) + d) && ps.all (fun o => decide (0 ≤ (pc : Int) + o.2)) && (ps.toList.zip (ps.toList.drop 1)).all (fun (a, next) => a.1 < next.1)
  | _ => true)
theorem zall_app {m : Nat} {a b : List zI} (h1 : a.all (zchk m) = true) (h2 : b.all (zchk m) = true) : (a ++ b).all (zchk m) = true := by
  rw [List.all_append, h1, h2]; rfl
